/-! an acknowledgment's blocks -/
theorem zHB_of {σ τ σ' τ' : zSt} (h : zHB σ τ) (e8 : σ' 8 = σ 8) (e6 : σ' 6 = σ 6) (e16 : τ' 16 = τ 16) (e17 : τ' 17 = τ 17) (ea : τ' 13 28 = τ 13 28) (eb : τ' 13 29 = τ 13 29) : zHB σ' τ' := by
  unfold zHB at h ⊢
  rw [e8, e6, e16, e17, ea, eb]
  exact h
theorem zSS_of {τ τ' : zSt} {p : Int} (h : zSS τ p) (e16 : τ' 16 = τ 16) (ea : τ' 13 28 = τ 13 28) : zSS τ' p := by
  unfold zSS at h ⊢
  rw [e16, ea]
  exact h
theorem l_tell (a : Int32) (ha0 : 0 ≤ a.toInt) (ha1 : a.toInt < 40) : ∀ (m : Nat) (σ τ : zSt) (x3 x4 x5 : Int32), zHB σ τ → τ 13 38 = a → zAkB (σ 12) (τ 23) (τ 24) → τ 22 a.toInt.toNat = x3 → 0 ≤ x5.toInt → x5.toInt ≤ 3 → 0 ≤ x3.toInt → x3.toInt ≤ x5.toInt → (3 - x5.toInt).toNat < m → kl_R_tellBlocks_13 a m σ x3 x4 x5 ∧ kl_M_answers_59 m τ x4 x5 ∧ zAkB ((l_R_tellBlocks_13 a m σ x3 x4 x5).2 12) ((l_M_answers_59 m τ x4 x5) 23) ((l_M_answers_59 m τ x4 x5) 24) ∧ (l_M_answers_59 m τ x4 x5) 22 a.toInt.toNat = (l_R_tellBlocks_13 a m σ x3 x4 x5).1 ∧ (∀ j, j ≠ a.toInt.toNat → (l_M_answers_59 m τ x4 x5) 22 j = τ 22 j) ∧ (∀ j, ¬ (9 * a.toInt.toNat + 3 ≤ j ∧ j < 9 * a.toInt.toNat + 9) → (l_R_tellBlocks_13 a m σ x3 x4 x5).2 12 j = σ 12 j) ∧ (∀ i, i ≠ 12 → (l_R_tellBlocks_13 a m σ x3 x4 x5).2 i = σ i) ∧ (∀ i, i ≠ 22 → i ≠ 23 → i ≠ 24 → (l_M_answers_59 m τ x4 x5) i = τ i) ∧ 0 ≤ (l_R_tellBlocks_13 a m σ x3 x4 x5).1.toInt ∧ (l_R_tellBlocks_13 a m σ x3 x4 x5).1.toInt ≤ 3 ∧ (∀ j, (l_M_answers_59 m τ x4 x5) 23 j = τ 23 j ∧ (l_M_answers_59 m τ x4 x5) 24 j = τ 24 j ∨ (0 ≤ ((l_M_answers_59 m τ x4 x5) 23 j).toInt ∧ ((l_M_answers_59 m τ x4 x5) 24 j).toInt ≤ 600 ∧ ¬ zA0 (τ 16) (((l_M_answers_59 m τ x4 x5) 24 j).toInt - 1) = 0)) := by
  intro m
  induction m with
  | zero => intro σ τ x3 x4 x5 _ _ _ _ _ _ _ _ h; omega
  | succ m ih =>
    intro σ τ x3 x4 x5 h e38 hB e22 h0 h1 h2 h3 h4
    by_cases g1 : 3 ≤ x5
    · unfold kl_R_tellBlocks_13 l_R_tellBlocks_13 kl_M_answers_59 l_M_answers_59
      rw [if_pos g1, if_pos g1]
      exact ⟨fun q => absurd g1 q, fun q => absurd g1 q, hB, e22, fun _ _ => rfl, fun _ _ => rfl, fun _ _ => rfl, fun _ _ _ _ => rfl, h2, by show x3.toInt ≤ 3; omega, fun _ => Or.inl ⟨rfl, rfl⟩⟩
    · have g1' := g1
      rw [zle, zt3] at g1'
      have hi : (x5 + 1).toInt = x5.toInt + 1 := zinc' (by omega)
      obtain ⟨n1, n2, n3, n4⟩ := znewest h x4 x5
      by_cases g2 : f_R_newestBlockBefore σ x4 = -1
      · have g3 := n3.symm.trans g2
        obtain ⟨j1, j2, j3⟩ := ih σ τ x3 x4 (x5 + 1) h e38 hB e22 (by omega) (by omega) h2 (by omega) (by omega)
        have e1 : l_R_tellBlocks_13 a (m + 1) σ x3 x4 x5 = l_R_tellBlocks_13 a m σ x3 x4 (x5 + 1) := by
          rw [l_R_tellBlocks_13, if_neg g1]
          dsimp only [zlet]
          rw [if_pos g2]
        have e2 : l_M_answers_59 (m + 1) τ x4 x5 = l_M_answers_59 m τ x4 (x5 + 1) := by
          rw [l_M_answers_59, if_neg g1]
          dsimp only [zlet]
          rw [if_pos g3]
        rw [e1, e2]
        refine ⟨?_, ?_, j3⟩
        · unfold kl_R_tellBlocks_13
          exact fun _ => ⟨n1, fun r hr => ⟨fun _ => j1, fun q => absurd (hr.trans g2) q⟩⟩
        · unfold kl_M_answers_59
          exact fun _ => ⟨n2, fun r hr => ⟨fun _ => j2, fun q => absurd (hr.trans g3) q⟩⟩
      · have g3 : ¬ l_M_answers_74 τ x4 x5 (((600 : Int32).toInt - (((τ 13 28) + 1)).toInt).toNat + 2) (-1) ((τ 13 28) + 1) = -1 := fun q => g2 (n3.trans q)
        have n5 : zSS τ (f_R_newestBlockBefore σ x4).toInt := n4.resolve_left g2
        generalize hr2 : f_R_newestBlockBefore σ x4 = r2 at n3 n5 g2
        obtain ⟨d1, d2, d3, d4, d5, d6, d7, d8⟩ := znext h r2 n5
        have w := zHB_w h n5.2.2.1
        have hc := zidx3 (a := a) (x := x5) ha0 (by omega) h0 (by omega)
        have hcn : (3 * a + x5).toNatClampNeg = 3 * a.toInt.toNat + x5.toInt.toNat := by rw [zNat, hc.2]; omega
        have han : a.toNatClampNeg = a.toInt.toNat := rfl
        have hx2 : (2 * x5).toInt = 2 * x5.toInt := by
          rw [zmul (by rw [zt2]; omega) (by rw [zt2]; omega), zt2]
        have hx3 : (3 + 2 * x5).toInt = 3 + 2 * x5.toInt := by
          rw [zadd (by rw [zt3]; omega) (by rw [zt3]; omega), zt3, hx2]
        have hx4 : (3 + 2 * x5 + 1).toInt = 4 + 2 * x5.toInt := by
          rw [zinc' (by omega), hx3]; omega
        have hr5 : f_M_runEnd (zuf τ 23 (3 * a.toInt.toNat + x5.toInt.toNat) r2) r2 = f_R_endOfRun σ r2 := (znext (zHB_of h rfl rfl (zuf_ne (by decide)) (zuf_ne (by decide)) (by rw [zuf_ne (by decide)]) (by rw [zuf_ne (by decide)])) r2 (zSS_of n5 (zuf_ne (by decide)) (by rw [zuf_ne (by decide)]))).2.1.symm
        have hkr5 : k_M_runEnd (zuf τ 23 (3 * a.toInt.toNat + x5.toInt.toNat) r2) r2 := (znext (zHB_of h rfl rfl (zuf_ne (by decide)) (zuf_ne (by decide)) (by rw [zuf_ne (by decide)]) (by rw [zuf_ne (by decide)])) r2 (zSS_of n5 (zuf_ne (by decide)) (by rw [zuf_ne (by decide)]))).2.2.1
        generalize hr5' : f_R_endOfRun σ r2 = r5 at *
        obtain ⟨s1, s2⟩ := W_set11 (σ := σ) (a := a) (i := 3 + 2 * x5) (v := r2) ha0 ha1 (by omega) (by omega)
        have s3 : (3 + 2 * x5).toInt.toNat = 3 + 2 * x5.toInt.toNat := by omega
        rw [s3] at s2
        obtain ⟨s4, s5⟩ := W_set11 (σ := zuf σ 12 (9 * a.toInt.toNat + (3 + 2 * x5.toInt.toNat)) r2) (a := a) (i := 3 + 2 * x5 + 1) (v := r5) ha0 ha1 (by omega) (by omega)
        have s6 : (3 + 2 * x5 + 1).toInt.toNat = 4 + 2 * x5.toInt.toNat := by omega
        rw [s6] at s5
        obtain ⟨u9, hu9⟩ : ∃ u9, u9 = zuf (zuf σ 12 (9 * a.toInt.toNat + (3 + 2 * x5.toInt.toNat)) r2) 12 (9 * a.toInt.toNat + (4 + 2 * x5.toInt.toNat)) r5 := ⟨_, rfl⟩
        rw [← hu9] at s5
        obtain ⟨w9, hw9⟩ : ∃ w9, w9 = zuf (zuf (zuf τ 23 (3 * a.toInt.toNat + x5.toInt.toNat) r2) 24 (3 * a.toInt.toNat + x5.toInt.toNat) r5) 22 a.toInt.toNat (x3 + 1) := ⟨_, rfl⟩
        have u12 : ∀ i, i ≠ 12 → u9 i = σ i := fun i q => by rw [hu9, zuf_ne q, zuf_ne q]
        have w22 : ∀ i, i ≠ 22 → i ≠ 23 → i ≠ 24 → w9 i = τ i := fun i q1 q2 q3 => by rw [hw9, zuf_ne q1, zuf_ne q3, zuf_ne q2]
        have h9 : zHB u9 w9 := zHB_of h (u12 8 (by decide)) (u12 6 (by decide)) (w22 16 (by decide) (by decide) (by decide)) (w22 17 (by decide) (by decide) (by decide)) (by rw [w22 13 (by decide) (by decide) (by decide)]) (by rw [w22 13 (by decide) (by decide) (by decide)])
        obtain ⟨f1, f2, f3, f4⟩ := zlatest u9 w9 (zHB_16 h9) r2 r5 (by omega) (by omega) (by rw [u12 8 (by decide)]; exact d4)
        have hx31 : (x3 + 1).toInt = x3.toInt + 1 := zinc' (by omega)
        have hB9 : zAkB (u9 12) (w9 23) (w9 24) := by
          intro p hp i hi3
          have q1 : w9 23 = zuf τ 23 (3 * a.toInt.toNat + x5.toInt.toNat) r2 23 := by
            rw [hw9, zuf_ne (by decide), zuf_ne (by decide)]
          have q2 : w9 24 = zuf τ 24 (3 * a.toInt.toNat + x5.toInt.toNat) r5 24 := by
            rw [hw9, zuf_ne (by decide)]
            funext j
            rw [zuf_i, zuf_i, zuf_ne (by decide)]
          rw [q1, q2, hu9, zuf_i, zuf_i, zuf_i, zuf_i, zuf_i, zuf_i]
          by_cases q : p = a.toInt.toNat ∧ i = x5.toInt.toNat
          · rw [if_neg (by omega), if_pos (by omega), if_pos (by omega), if_pos (by omega), if_pos (by omega)]
            exact ⟨rfl, rfl⟩
          · rw [if_neg (by omega), if_neg (by omega), if_neg (by omega), if_neg (by omega), if_neg (by omega), if_neg (by omega)]
            exact hB p hp i hi3
        have e9 : w9 22 a.toInt.toNat = x3 + 1 := by rw [hw9]; exact zuf_eq
        obtain ⟨j1, j2, j3, j4, j5, j6, j7, j8, j9, j10, j11⟩ := ih u9 w9 (x3 + 1) (f_P_greatest 7 u9 r2 r5) (x5 + 1) h9 (by rw [w22 13 (by decide) (by decide) (by decide)]; exact e38) hB9 e9 (by omega) (by omega) (by omega) (by omega) (by omega)
        have e1 : l_R_tellBlocks_13 a (m + 1) σ x3 x4 x5 = l_R_tellBlocks_13 a m u9 (x3 + 1) (f_P_greatest 7 u9 r2 r5) (x5 + 1) := by
          rw [l_R_tellBlocks_13, if_neg g1]
          dsimp only [zlet]
          rw [hr2, if_neg g2, hr5', s2, s5]
        have e2w : zuf (zuf (zuf τ 23 (3 * (τ 13 38) + x5).toNatClampNeg r2) 24 (3 * (τ 13 38) + x5).toNatClampNeg r5) 22 (τ 13 38).toNatClampNeg (τ 22 (τ 13 38).toNatClampNeg + 1) = w9 := by
          rw [e38, hcn, han, e22, hw9]
        have e2 : l_M_answers_59 (m + 1) τ x4 x5 = l_M_answers_59 m w9 (f_P_greatest 7 u9 r2 r5) (x5 + 1) := by
          rw [l_M_answers_59, if_neg g1]
          dsimp only [zlet]
          rw [if_neg g3, ← n3]
          have q1 : f_M_runEnd (zuf τ 23 (3 * (τ 13 38) + x5).toNatClampNeg r2) r2 = r5 := by rw [e38, hcn]; exact hr5
          rw [q1, e2w, ← f3]
        rw [e1, e2]
        refine ⟨?_, ?_, j3, j4, fun j q => ?_, fun j q => ?_, fun i q => ?_, fun i q1 q2 q3 => ?_, j9, j10, fun j => ?_⟩
        · unfold kl_R_tellBlocks_13
          refine fun _ => ⟨n1, fun r hr => ⟨fun q => absurd (by rw [← hr2, ← hr]; exact q) g2, fun _ => ?_⟩⟩
          rw [hr2] at hr
          subst hr
          refine ⟨d1, fun r hr => ?_⟩
          rw [hr5'] at hr
          subst hr
          refine ⟨s1, fun u7 hu7 => ?_⟩
          rw [s2] at hu7
          subst hu7
          refine ⟨s4, fun u hu => ?_⟩
          rw [s5] at hu
          subst hu
          exact ⟨f1, fun r hr => by subst hr; exact j1⟩
        · unfold kl_M_answers_59
          refine fun _ => ⟨n2, fun r hr => ?_⟩
          rw [← n3] at hr
          subst hr
          refine ⟨fun q => absurd q g2, fun _ => ⟨zvin (by rw [e38]; omega) (by rw [e38]; omega), by rw [e38, hcn]; exact hkr5, fun r hr => ?_⟩⟩
          rw [e38, hcn, hr5] at hr
          subst hr
          refine ⟨zvin (by rw [e38]; omega) (by rw [e38]; omega), zvin (by rw [e38]; omega) (by rw [e38]; omega), zvin (by rw [e38]; omega) (by rw [e38]; omega), ?_⟩
          rw [e2w]
          exact ⟨f2, fun r hr => by rw [hr, ← f3]; exact j2⟩
        · rw [j5 j q, hw9, zuf_nj q, zuf_ne (by decide), zuf_ne (by decide)]
        · rw [j6 j q, hu9, zuf_nj (by omega), zuf_nj (by omega)]
        · rw [j7 i q, u12 i q]
        · rw [j8 i q1 q2 q3, w22 i q1 q2 q3]
        · have q16 : w9 16 = τ 16 := w22 16 (by decide) (by decide) (by decide)
          have q1 : w9 23 = zuf τ 23 (3 * a.toInt.toNat + x5.toInt.toNat) r2 23 := by
            rw [hw9, zuf_ne (by decide), zuf_ne (by decide)]
          have q2 : w9 24 = zuf τ 24 (3 * a.toInt.toNat + x5.toInt.toNat) r5 24 := by
            rw [hw9, zuf_ne (by decide)]
            funext j
            rw [zuf_i, zuf_i, zuf_ne (by decide)]
          have j12 := j11 j
          rw [q16, q1, q2, zuf_i, zuf_i] at j12
          rcases j12 with ⟨q3, q4⟩ | q3
          · rw [q3, q4]
            by_cases q5 : j = 3 * a.toInt.toNat + x5.toInt.toNat
            · rw [if_pos q5, if_pos q5]
              refine Or.inr ⟨by omega, d5, ?_⟩
              intro q6
              have q7 := (d4.2.2.1 (r5.toInt - 1) (by omega) (by omega)).2
              exact q7 ((zHB_A h _).mpr q6)
            · rw [if_neg q5, if_neg q5]
              exact Or.inl ⟨rfl, rfl⟩
          · exact Or.inr q3
/-! an acknowledgment is made -/
def zmkA (σ : zSt) : zSt := zseq (f_W_addRow 11 σ) (fun r4 u5 => zlet (f_W_setCell 11 u5 r4 0 (u5 6 2)) (fun u7 => zlet (f_R_room u7) (fun r9 => zlet (f_W_setCell 11 u7 r4 1 r9) (fun u11 => zseq (f_R_tellBlocks u11 r4) (fun r13 u14 => zlet (f_W_setCell 11 u14 r4 2 r13) (fun u16 => u16))))))
def kmkA (σ : zSt) : Prop := (∀ r4 u5, (r4, u5) = (f_W_addRow 11 σ) → ((k_W_setCell 11 u5 r4 0 (u5 6 2)) ∧ (∀ u7, u7 = (f_W_setCell 11 u5 r4 0 (u5 6 2)) → (∀ r9, r9 = (f_R_room u7) → ((k_W_setCell 11 u7 r4 1 r9) ∧ (∀ u11, u11 = (f_W_setCell 11 u7 r4 1 r9) → ((k_R_tellBlocks u11 r4) ∧ (∀ r13 u14, (r13, u14) = (f_R_tellBlocks u11 r4) → (k_W_setCell 11 u14 r4 2 r13)))))))))
def zanA (τ : zSt) : zSt := zlet (f_M_room (zuf τ 20 ((τ 13 38) : Int32).toNatClampNeg (τ 13 28))) (fun r3 => zlet (l_M_answers_59 (((3 : Int32).toInt - (0 : Int32).toInt).toNat + 2) (zuf (zuf (zuf τ 20 ((τ 13 38) : Int32).toNatClampNeg (τ 13 28)) 21 ((τ 13 38) : Int32).toNatClampNeg r3) 22 ((τ 13 38) : Int32).toNatClampNeg 0) ((τ 13 27) + 1) 0) (fun r36 => (zuf r36 13 38 ((r36 13 38) + 1))))
def kanA (τ : zSt) : Prop := (vp_in (τ 13 38) 40 ∧ (∀ r3, r3 = (f_M_room (zuf τ 20 ((τ 13 38) : Int32).toNatClampNeg (τ 13 28))) → (vp_in (τ 13 38) 40 ∧ (vp_in (τ 13 38) 40 ∧ (kl_M_answers_59 (((3 : Int32).toInt - (0 : Int32).toInt).toNat + 2) (zuf (zuf (zuf τ 20 ((τ 13 38) : Int32).toNatClampNeg (τ 13 28)) 21 ((τ 13 38) : Int32).toNatClampNeg r3) 22 ((τ 13 38) : Int32).toNatClampNeg 0) ((τ 13 27) + 1) 0)))))
theorem zadd_row {c : Nat} {σ : zSt} (h0 : 0 ≤ (σ c 2).toInt) (h1 : (σ c 2).toInt < 40) : f_W_addRow c σ = (σ c 2, zuf σ c 2 (σ c 2 + 1)) := by
  unfold f_W_addRow
  rw [if_neg (by rw [zle, zt40]; omega)]
  have e : (σ c 2 + 1).toInt = (σ c 2).toInt + 1 := zinc' (by omega)
  have e2 : (σ c 2 + 1 - 1) = σ c 2 := by
    rw [zeq, zdec1 (by omega), e]; omega
  rw [e2]
def zNewAck (τ τ' : zSt) : Prop := (∀ p : Nat, p < 40 → (∃ s, s < 40 ∧ τ' 20 p = τ 20 s ∧ τ' 21 p = τ 21 s ∧ τ' 22 p = τ 22 s) ∨ (τ' 20 p = τ 13 28 ∧ τ' 21 p = τ 13 29 + 32 - τ 13 28 ∧ 0 ≤ (τ' 22 p).toInt ∧ (τ' 22 p).toInt ≤ 3)) ∧ (∀ j : Nat, j < 120 → (∃ s, s < 120 ∧ τ' 23 j = τ 23 s ∧ τ' 24 j = τ 24 s) ∨ (0 ≤ (τ' 23 j).toInt ∧ (τ' 24 j).toInt ≤ 600 ∧ ¬ zA0 (τ 16) ((τ' 24 j).toInt - 1) = 0))
theorem zmakeA {σ τ : zSt} (h : zHB σ τ) (e1 : σ 6 1 = τ 13 27) (e38 : σ 11 2 = τ 13 38) (h0 : 0 ≤ (τ 13 38).toInt) (h1 : (τ 13 38).toInt < 40) (hN : zAkN (σ 12) (τ 20) (τ 21)) (hC : zAkC (σ 12) (τ 22)) (hB : zAkB (σ 12) (τ 23) (τ 24)) : kmkA σ ∧ kanA τ ∧ zAkN (zmkA σ 12) (zanA τ 20) (zanA τ 21) ∧ zAkC (zmkA σ 12) (zanA τ 22) ∧ zAkB (zmkA σ 12) (zanA τ 23) (zanA τ 24) ∧ zmkA σ 11 2 = zanA τ 13 38 ∧ zanA τ 13 38 = τ 13 38 + 1 ∧ (∀ i, i ≠ 11 → i ≠ 12 → zmkA σ i = σ i) ∧ (∀ i, i ≠ 13 → i ≠ 20 → i ≠ 21 → i ≠ 22 → i ≠ 23 → i ≠ 24 → zanA τ i = τ i) ∧ (∀ j, j ≠ 38 → zanA τ 13 j = τ 13 j) ∧ zNewAck τ (zanA τ) := by
  have h' := h
  obtain ⟨-, e2, e3, a0, a1, a2, a3⟩ := h'
  generalize hp : τ 13 38 = a at *
  have hadd := zadd_row (c := 11) (σ := σ) (by rw [e38]; exact h0) (by rw [e38]; exact h1)
  rw [e38] at hadd
  have han : a.toNatClampNeg = a.toInt.toNat := rfl
  obtain ⟨s1, s2⟩ := W_set11 (σ := zuf σ 11 2 (a + 1)) (a := a) (i := 0) (v := τ 13 28) h0 h1 (by rw [zt0]; omega) (by rw [zt0]; omega)
  obtain ⟨rm, hrm⟩ : ∃ rm, rm = τ 13 29 + 32 - τ 13 28 := ⟨_, rfl⟩
  have z0 : (0 : Int32).toInt.toNat = 0 := rfl
  have z1 : (1 : Int32).toInt.toNat = 1 := rfl
  have z2 : (2 : Int32).toInt.toNat = 2 := rfl
  rw [z0, Nat.add_zero] at s2
  obtain ⟨s3, s4⟩ := W_set11 (σ := zuf (zuf σ 11 2 (a + 1)) 12 (9 * a.toInt.toNat) (τ 13 28)) (a := a) (i := 1) (v := rm) h0 h1 (by rw [zt1]; omega) (by rw [zt1]; omega)
  rw [z1] at s4
  obtain ⟨σ1, hσ1⟩ : ∃ u, u = zuf (zuf (zuf σ 11 2 (a + 1)) 12 (9 * a.toInt.toNat) (τ 13 28)) 12 (9 * a.toInt.toNat + 1) rm := ⟨_, rfl⟩
  rw [← hσ1] at s4
  obtain ⟨τ1, hτ1⟩ : ∃ u, u = zuf (zuf (zuf τ 20 a.toInt.toNat (τ 13 28)) 21 a.toInt.toNat rm) 22 a.toInt.toNat 0 := ⟨_, rfl⟩
  have fσ : ∀ i, i ≠ 11 → i ≠ 12 → σ1 i = σ i := fun i q1 q2 => by rw [hσ1, zuf_ne q2, zuf_ne q2, zuf_ne q1]
  have fτ : ∀ i, i ≠ 20 → i ≠ 21 → i ≠ 22 → τ1 i = τ i := fun i q1 q2 q3 => by rw [hτ1, zuf_ne q3, zuf_ne q2, zuf_ne q1]
  have h1' : zHB σ1 τ1 := zHB_of h (fσ 8 (by decide) (by decide)) (fσ 6 (by decide) (by decide)) (fτ 16 (by decide) (by decide) (by decide)) (fτ 17 (by decide) (by decide) (by decide)) (by rw [fτ 13 (by decide) (by decide) (by decide)]) (by rw [fτ 13 (by decide) (by decide) (by decide)])
  have hσ12 : ∀ j, ¬ j = 9 * a.toInt.toNat → ¬ j = 9 * a.toInt.toNat + 1 → σ1 12 j = σ 12 j := fun j q1 q2 => by
    rw [hσ1, zuf_nj q2, zuf_nj q1, zuf_ne (by decide)]
  obtain ⟨j1, j2, j3, j4, j5, j6, j7, j8, j9, j10, j11⟩ := l_tell a h0 h1 (((3 : Int32).toInt - (0 : Int32).toInt).toNat + 2) σ1 τ1 0 (τ 13 27 + 1) 0 h1' (by rw [fτ 13 (by decide) (by decide) (by decide)]; exact hp) (by
    intro p hp i hi
    rw [hσ12 _ (by omega) (by omega), hσ12 _ (by omega) (by omega), fτ 23 (by decide) (by decide) (by decide), fτ 24 (by decide) (by decide) (by decide)]
    exact hB p hp i hi) (by rw [hτ1]; exact zuf_eq) (by rw [zt0]; omega) (by rw [zt0]; omega) (by rw [zt0]; omega) (by omega) (by rw [zt3, zt0]; decide)
  generalize hT : l_M_answers_59 (((3 : Int32).toInt - (0 : Int32).toInt).toNat + 2) τ1 (τ 13 27 + 1) 0 = T at *
  generalize hU : l_R_tellBlocks_13 a (((3 : Int32).toInt - (0 : Int32).toInt).toNat + 2) σ1 0 (τ 13 27 + 1) 0 = U at *
  obtain ⟨r, u⟩ := U
  dsimp only at *
  obtain ⟨s5, s6⟩ := W_set11 (σ := u) (a := a) (i := 2) (v := r) h0 h1 (by rw [zt2]; omega) (by rw [zt2]; omega)
  rw [z2] at s6
  have r1 : zuf σ 11 2 (a + 1) 6 = σ 6 := zuf_ne (by decide)
  have r2 : zuf (zuf σ 11 2 (a + 1)) 12 (9 * a.toInt.toNat) (τ 13 28) 6 = σ 6 := by rw [zuf_ne (by decide), zuf_ne (by decide)]
  have r3 : f_R_room (zuf (zuf σ 11 2 (a + 1)) 12 (9 * a.toInt.toNat) (τ 13 28)) = rm := by
    unfold f_R_room
    rw [r2, e2, e3, hrm]
  have r4 : f_M_room (zuf τ 20 a.toInt.toNat (τ 13 28)) = rm := by
    unfold f_M_room
    rw [zuf_ne (by decide), hrm]
  have r5 : f_R_tellBlocks σ1 a = (r, u) := by
    unfold f_R_tellBlocks
    rw [fσ 6 (by decide) (by decide), e1, hU]
    rfl
  have mk : zmkA σ = zuf u 12 (9 * a.toInt.toNat + 2) r := by
    unfold zmkA
    rw [hadd]
    dsimp only [zseq, zlet]
    rw [r1, e2, s2, r3, s4, r5]
    exact s6
  have T13 : T 13 = τ 13 := by rw [j8 13 (by decide) (by decide) (by decide), fτ 13 (by decide) (by decide) (by decide)]
  have an : zanA τ = zuf T 13 38 (a + 1) := by
    unfold zanA
    dsimp only [zlet]
    rw [hp, han, r4, ← hτ1, hT, T13, hp]
  have T20 : T 20 = zuf τ 20 a.toInt.toNat (τ 13 28) 20 := by
    rw [j8 20 (by decide) (by decide) (by decide), hτ1, zuf_ne (by decide), zuf_ne (by decide)]
  have T21 : T 21 = zuf τ 21 a.toInt.toNat rm 21 := by
    rw [j8 21 (by decide) (by decide) (by decide), hτ1, zuf_ne (by decide)]
    funext j
    rw [zuf_i, zuf_i, zuf_ne (by decide)]
  have T22 : ∀ j, j ≠ a.toInt.toNat → T 22 j = τ 22 j := fun j q => by
    rw [j5 j q, hτ1, zuf_nj q, zuf_ne (by decide), zuf_ne (by decide)]
  rw [mk, an]
  refine ⟨?_, ?_, ?_, ?_, ?_, ?_, zuf_eq, ?_, ?_, ?_, ?_, ?_⟩
  · intro q4 q5 hq
    rw [hadd] at hq
    obtain ⟨rfl, rfl⟩ := Prod.mk.inj hq
    rw [r1, e2]
    refine ⟨s1, fun u7 hu7 => ?_⟩
    rw [s2] at hu7
    subst hu7
    intro r9 hr9
    rw [r3] at hr9
    subst hr9
    refine ⟨s3, fun v hv => ?_⟩
    rw [s4] at hv
    rw [hv]
    refine ⟨?_, fun x y hxy => ?_⟩
    · unfold k_R_tellBlocks
      rw [fσ 6 (by decide) (by decide), e1]
      exact j1
    · rw [r5] at hxy
      obtain ⟨rfl, rfl⟩ := Prod.mk.inj hxy
      exact s5
  · unfold kanA
    rw [hp, han, r4]
    refine ⟨zvin h0 (by omega), fun q hq => ⟨zvin h0 (by omega), zvin h0 (by omega), ?_⟩⟩
    rw [hq, ← hτ1]
    exact j2
  · intro p hpp
    rw [zuf_nj (by omega), zuf_nj (by omega), j6 _ (by omega), j6 _ (by omega), zuf_ne (by decide), zuf_ne (by decide), T20, T21, zuf_i, zuf_i]
    by_cases q : p = a.toInt.toNat
    · rw [if_pos q, if_pos q, q, hσ1, zuf_nj (by omega), zuf_eq, zuf_eq]
      exact ⟨rfl, rfl⟩
    · rw [if_neg q, if_neg q, hσ12 _ (by omega) (by omega), hσ12 _ (by omega) (by omega)]
      exact hN p hpp
  · intro p hpp
    rw [zuf_i, zuf_ne (by decide)]
    by_cases q : p = a.toInt.toNat
    · rw [if_pos (by omega), q, j4]
    · rw [if_neg (by omega), j6 _ (by omega), hσ12 _ (by omega) (by omega), T22 p q]
      exact hC p hpp
  · intro p hpp i hi
    rw [zuf_nj (by omega), zuf_nj (by omega), zuf_ne (by decide), zuf_ne (by decide)]
    exact j3 p hpp i hi
  · rw [zuf_eq, zuf_ne (by decide), j7 11 (by decide), hσ1, zuf_ne (by decide), zuf_ne (by decide), zuf_eq]
  · intro i q1 q2
    rw [zuf_ne q2, j7 i q2, fσ i q1 q2]
  · intro i q1 q2 q3 q4 q5 q6
    rw [zuf_ne q1, j8 i q4 q5 q6, fτ i q2 q3 q4]
  · intro j q
    rw [zuf_nj q, T13]
  · intro p hpp
    rw [zuf_ne (by decide), zuf_ne (by decide), zuf_ne (by decide), T20, T21, zuf_i, zuf_i]
    by_cases q : p = a.toInt.toNat
    · rw [if_pos q, if_pos q, q, j4, hrm]
      exact Or.inr ⟨rfl, rfl, j9, j10⟩
    · rw [if_neg q, if_neg q, T22 p q]
      exact Or.inl ⟨p, hpp, rfl, rfl, rfl⟩
  · intro j hj
    rw [zuf_ne (by decide), zuf_ne (by decide)]
    have q := j11 j
    rw [fτ 23 (by decide) (by decide) (by decide), fτ 24 (by decide) (by decide) (by decide), fτ 16 (by decide) (by decide) (by decide)] at q
    rcases q with q | q
    · exact Or.inl ⟨j, hj, q.1, q.2⟩
    · exact Or.inr q
