/-! one segment, on both sides -/
def zput (σ : zSt) (s e : Int32) : Int32 × zSt := zlet (f_S_noteSent σ s e) (fun u9 => zseq (f_W_addRow 9 u9) (fun r11 u12 => zlet (f_W_setCell 9 u12 r11 0 s) (fun u14 => zlet (f_W_setCell 9 u14 r11 1 e) (fun u16 => ((e - s), u16)))))
def kput (σ : zSt) (s e : Int32) : Prop := (∀ u9, u9 = (f_S_noteSent σ s e) → (∀ r11 u12, (r11, u12) = (f_W_addRow 9 u9) → ((k_W_setCell 9 u12 r11 0 s) ∧ (∀ u14, u14 = (f_W_setCell 9 u12 r11 0 s) → (k_W_setCell 9 u14 r11 1 e)))))
theorem send_seg {σ τ : zSt} (s e : Int32) (hR : zRS (σ 2) (σ 5) (τ 13)) (e9 : σ 9 2 = τ 13 32) (b3 : 0 ≤ (τ 13 32).toInt) (b4 : (τ 13 32).toInt < 40) (hS : zSg (σ 10) (τ 18) (τ 19)) : kput σ s e ∧ k_M_sends τ s e ∧ (zput σ s e).1 = e - s ∧ (f_M_sends τ s e).1 = e - s ∧ zRS ((zput σ s e).2 2) ((zput σ s e).2 5) ((f_M_sends τ s e).2 13) ∧ (zput σ s e).2 9 2 = (f_M_sends τ s e).2 13 32 ∧ (f_M_sends τ s e).2 13 32 = τ 13 32 + 1 ∧ zSg ((zput σ s e).2 10) ((f_M_sends τ s e).2 18) ((f_M_sends τ s e).2 19) ∧ (∀ i, i ≠ 2 → i ≠ 5 → i ≠ 9 → i ≠ 10 → (zput σ s e).2 i = σ i) ∧ (∀ i, i ≠ 13 → i ≠ 18 → i ≠ 19 → (f_M_sends τ s e).2 i = τ i) ∧ (∀ j, j ≠ 32 → j ≠ 21 → j ≠ 4 → j ≠ 22 → j ≠ 16 → j ≠ 17 → j ≠ 15 → (f_M_sends τ s e).2 13 j = τ 13 j) ∧ (f_M_sends τ s e).2 13 4 = zmx (τ 13 4) (τ 13 3) ∧ (∀ p : Nat, (f_M_sends τ s e).2 18 p = τ 18 p ∧ (f_M_sends τ s e).2 19 p = τ 19 p ∨ (f_M_sends τ s e).2 18 p = s ∧ (f_M_sends τ s e).2 19 p = e) := by
  obtain ⟨n1, n2, n5⟩ := noteSent_facts σ s e
  obtain ⟨m0, m1, m18, m19, m13⟩ := sends_facts τ s e
  generalize hn : τ 13 32 = n at *
  have hnn : n.toNatClampNeg = n.toInt.toNat := rfl
  rw [hnn] at m18 m19
  obtain ⟨u9, hu9⟩ : ∃ u, u = f_S_noteSent σ s e := ⟨_, rfl⟩
  rw [← hu9] at n1 n2 n5
  have hadd := zadd_row (c := 9) (σ := u9) (by rw [n1 9 (by decide) (by decide), e9]; exact b3) (by rw [n1 9 (by decide) (by decide), e9]; exact b4)
  rw [n1 9 (by decide) (by decide), e9] at hadd
  have z0 : (0 : Int32).toInt.toNat = 0 := rfl
  have z1 : (1 : Int32).toInt.toNat = 1 := rfl
  obtain ⟨c3, c4⟩ := W_set9 (σ := zuf u9 9 2 (n + 1)) (a := n) (i := 0) (v := s) b3 (by omega) (by decide) (by decide)
  rw [z0, Nat.add_zero] at c4
  obtain ⟨c7, c8⟩ := W_set9 (σ := zuf (zuf u9 9 2 (n + 1)) 10 (2 * n.toInt.toNat) s) (a := n) (i := 1) (v := e) b3 (by omega) (by decide) (by decide)
  rw [z1] at c8
  have hz : zput σ s e = (e - s, zuf (zuf (zuf u9 9 2 (n + 1)) 10 (2 * n.toInt.toNat) s) 10 (2 * n.toInt.toNat + 1) e) := by
    unfold zput
    dsimp only [zlet, zseq]
    rw [← hu9, hadd]
    dsimp only
    rw [c4, c8]
  have g2 : ∀ i, i ≠ 9 → i ≠ 10 → (zput σ s e).2 i = u9 i := fun i q1 q2 => by
    rw [hz]
    dsimp only
    rw [zuf_ne q2, zuf_ne q2, zuf_ne q1]
  have g9 : (zput σ s e).2 9 2 = n + 1 := by
    rw [hz]
    dsimp only
    rw [zuf_ne (by decide), zuf_ne (by decide), zuf_eq]
  have g10 : ∀ j, (zput σ s e).2 10 j = if j = 2 * n.toInt.toNat + 1 then e else if j = 2 * n.toInt.toNat then s else σ 10 j := fun j => by
    rw [hz]
    dsimp only
    rw [zuf_i, zuf_i, zuf_ne (by decide), n1 10 (by decide) (by decide)]
  have g1 : (zput σ s e).1 = e - s := by rw [hz]
  have gk : kput σ s e := by
    intro u hu r v hv
    rw [hu, ← hu9, hadd] at hv
    obtain ⟨rfl, rfl⟩ := Prod.mk.inj hv
    refine ⟨c3, fun w hw => ?_⟩
    rw [hw, c4]
    exact c7
  generalize zput σ s e = S at *
  generalize f_M_sends τ s e = T at *
  obtain ⟨⟨q2, q3, q4, q5, q6, q7, q8, q9, q10, q11, q12, q13, q14⟩, d0, d1, d2, d3, d4, d5, d6, d7⟩ := hR
  refine ⟨gk, ⟨zvin (by rw [hn]; exact b3) (by rw [hn]; omega), zvin (by rw [hn]; exact b3) (by rw [hn]; omega)⟩, g1, m0, ?_, ?_, ?_, ?_, fun i p1 p2 p3 p4 => by rw [g2 i p3 p4, n1 i p1 p2], m1, fun j p1 p2 p3 p4 p5 p6 p7 => ?_, ?_, fun p => ?_⟩
  · rw [g2 2 (by decide) (by decide), g2 5 (by decide) (by decide)]
    unfold zRS
    simp [n2, n5, m13, q2, q3, q4, q5, q6, q7, q8, q9, q10, q11, q12, q13, q14, d0, d1, d2, d3, d4, d5, d6, d7]
  · rw [g9, m13]; simp
  · rw [m13]; simp
  · intro p hp
    rw [g10, g10, m18, m19]
    by_cases q : p = n.toInt.toNat
    · rw [if_neg (by omega), if_pos (by omega), if_pos q, if_pos (by omega), if_pos q]
      exact ⟨rfl, rfl⟩
    · rw [if_neg (by omega), if_neg (by omega), if_neg q, if_neg (by omega), if_neg (by omega), if_neg q]
      exact hS p hp
  · rw [m13]; simp [p1, p2, p3, p4, p5, p6, p7]
  · rw [m13]; simp
  · rw [m18, m19]
    by_cases q : p = n.toInt.toNat
    · rw [if_pos q, if_pos q]; exact Or.inr ⟨rfl, rfl⟩
    · rw [if_neg q, if_neg q]; exact Or.inl ⟨rfl, rfl⟩
/-! the last mark -/
theorem l_lastMark (τ : zSt) : ∀ (m : Nat) (x : Int32), -1 ≤ x.toInt → x.toInt < 600 → (x.toInt + 1).toNat < m → kl_M_lastMark_7 τ m x ∧ -1 ≤ (l_M_lastMark_7 τ m x).toInt ∧ (l_M_lastMark_7 τ m x).toInt ≤ x.toInt ∧ (∀ p, (l_M_lastMark_7 τ m x).toInt < p → p ≤ x.toInt → zA0 (τ 15) p = 0) ∧ (0 ≤ (l_M_lastMark_7 τ m x).toInt → ¬ zA0 (τ 15) (l_M_lastMark_7 τ m x).toInt = 0) := by
  intro m
  induction m with
  | zero => intro x _ _ h; omega
  | succ m ih =>
    intro x h0 h1 h2
    unfold kl_M_lastMark_7 l_M_lastMark_7
    by_cases g1 : x < 0
    · rw [if_pos g1]
      rw [zlt, zt0] at g1
      exact ⟨fun q => absurd g1 (by rw [zlt, zt0] at q; exact q), h0, Int.le_refl _, fun p p1 p2 => absurd p1 (by omega), fun p => absurd p (by omega)⟩
    · rw [if_neg g1]
      have g1' := g1
      rw [zlt, zt0] at g1'
      have ha : zA0 (τ 15) x.toInt = τ 15 x.toNatClampNeg := zA0_in (by omega) h1
      have hv : vp_in x 600 := zvin (by omega) (by omega)
      by_cases g2 : τ 15 x.toNatClampNeg = 0
      · rw [if_pos g2]
        have hd : (x + (-1)).toInt = x.toInt - 1 := zdec (by omega)
        generalize x + (-1) = y at hd ⊢
        obtain ⟨k1, k2, k3, k4, k5⟩ := ih y (by omega) (by omega) (by omega)
        refine ⟨fun _ => ⟨hv, fun _ => k1⟩, k2, by omega, fun p p1 p2 => ?_, k5⟩
        by_cases p3 : p = x.toInt
        · rw [p3, ha]; exact g2
        · exact k4 p p1 (by omega)
      · rw [if_neg g2]
        refine ⟨fun _ => ⟨hv, fun q => absurd q g2⟩, h0, Int.le_refl _, fun p p1 p2 => absurd p1 (by omega), fun _ => by rw [ha]; exact g2⟩
theorem lastMark (τ : zSt) (h0 : 0 ≤ (τ 13 5).toInt) (h1 : (τ 13 5).toInt ≤ 600) : k_M_lastMark τ ∧ -1 ≤ (f_M_lastMark τ).toInt ∧ (f_M_lastMark τ).toInt < (τ 13 5).toInt ∧ (∀ p, (f_M_lastMark τ).toInt < p → p < (τ 13 5).toInt → zA0 (τ 15) p = 0) ∧ (0 ≤ (f_M_lastMark τ).toInt → ¬ zA0 (τ 15) (f_M_lastMark τ).toInt = 0) := by
  have hd : (τ 13 5 - 1).toInt = (τ 13 5).toInt - 1 := zdec1 (by omega)
  obtain ⟨k1, k2, k3, k4, k5⟩ := l_lastMark τ ((((τ 13 5) - 1).toInt + 1).toNat + 1) ((τ 13 5) - 1) (by omega) (by omega) (by omega)
  unfold k_M_lastMark f_M_lastMark
  dsimp only [zlet]
  exact ⟨k1, k2, by omega, fun p p1 p2 => k4 p p1 (by omega), k5⟩
/-! where a repair starts -/
theorem zrepair {σ τ : zSt} (hm : zEq (σ 4) (τ 15)) (hM : zBM (τ 15) (τ 13)) (c2 : σ 2 2 = τ 13 2) (c3 : σ 2 3 = τ 13 3) (c4 : σ 2 4 = τ 13 4) (c11 : ¬ σ 2 11 = -1) (c12 : σ 2 12 = τ 13 12) (h1 : 0 ≤ (τ 13 2).toInt) (h2 : (τ 13 2).toInt ≤ (τ 13 3).toInt) (h34 : (τ 13 3).toInt ≤ (τ 13 4).toInt) (h3 : (τ 13 3).toInt ≤ 600) (h4 : (τ 13 4).toInt ≤ (τ 13 5).toInt) (h5 : (τ 13 5).toInt ≤ 600) : k_S_startOfRepair σ ∧ k_M_hole τ ∧ f_S_startOfRepair σ = f_M_hole τ ∧ (f_M_hole τ = -1 ∨ (τ 13 2).toInt ≤ (f_M_hole τ).toInt ∧ (f_M_hole τ).toInt < (τ 13 3).toInt ∧ zA0 (τ 15) (f_M_hole τ).toInt = 0) := by
  unfold k_S_startOfRepair k_M_hole f_S_startOfRepair f_M_hole
  dsimp only [zlet]
  rw [if_neg c11, c2, c3, c4, c12, zmx_lt, zgreater]
  have hx := zmx_t (τ 13 2) (τ 13 12)
  have hx0 : (τ 13 2).toInt ≤ (zmx (τ 13 2) (τ 13 12)).toInt := by
    rw [hx]; split <;> omega
  obtain ⟨f1, f2⟩ := firstEmpty 3 σ (zmx (τ 13 2) (τ 13 12)) (τ 13 3)
  obtain ⟨f3, f4⟩ := l_hole τ h3 (((τ 13 3).toInt - (zmx (τ 13 2) (τ 13 12)).toInt).toNat + 2) (zmx (τ 13 2) (τ 13 12)) (by omega) (by omega)
  have hA : ∀ p, zA0 (σ (3 + 1)) p = zA0 (τ 15) p := fun p => zA0_eq hm p
  have f5 : f_P_firstEmpty 3 σ (zmx (τ 13 2) (τ 13 12)) (τ 13 3) = l_M_hole_12 τ (((τ 13 3).toInt - (zmx (τ 13 2) (τ 13 12)).toInt).toNat + 2) (zmx (τ 13 2) (τ 13 12)) := zeq.mpr (zFst_uniq (zFst_iff f2 (fun p _ _ => by rw [hA])) f4)
  rw [f5]
  generalize hr : l_M_hole_12 τ (((τ 13 3).toInt - (zmx (τ 13 2) (τ 13 12)).toInt).toNat + 2) (zmx (τ 13 2) (τ 13 12)) = r at *
  obtain ⟨k1, k2, k3, k4⟩ := f4
  obtain ⟨j1, j2⟩ := firstFilled 3 σ r (τ 13 4)
  obtain ⟨l1, l2, l3, l4, l5⟩ := lastMark τ (by omega) h5
  have hk1 : (∀ r2, r2 = r → r2 < τ 13 3 → k_P_firstFilled 3 σ r2 (τ 13 4)) := fun r2 hr2 _ => by rw [hr2]; exact j1
  refine ⟨fun _ => ⟨f1, hk1⟩, fun r1 hr1 => ?_, ?_⟩
  · rw [hr1]
    exact ⟨f3, fun r6 hr6 _ _ => l1⟩
  · by_cases g1 : τ 13 3 ≤ r
    · have g2 : ¬ r < τ 13 3 := by
        rw [zlt]; rw [zle] at g1; omega
      rw [if_pos g1, if_neg g2]
      exact ⟨rfl, Or.inl rfl⟩
    · have g2 : r < τ 13 3 := by
        rw [zlt]; rw [zle] at g1; omega
      have g2' := zlt.mp g2
      have k4' : zA0 (τ 15) r.toInt = 0 := k4 g2'
      have hin : (τ 13 2).toInt ≤ r.toInt ∧ r.toInt < (τ 13 3).toInt ∧ zA0 (τ 15) r.toInt = 0 := ⟨by omega, g2', k4'⟩
      rw [if_neg g1, if_pos g2]
      by_cases g3 : r = τ 13 2
      · simp only [if_pos g3, ite_self, true_and]
        exact Or.inr hin
      · simp only [if_neg g3, ite_self]
        obtain ⟨i1, i2, i3, i4⟩ := j2
        have hiff : (τ 13 4 ≤ f_P_firstFilled 3 σ r (τ 13 4)) ↔ (f_M_lastMark τ ≤ r) := by
          rw [zle, zle]
          constructor
          · intro q
            by_cases q2 : (f_M_lastMark τ).toInt ≤ r.toInt
            · exact q2
            · have q3 := l5 (by omega)
              have q4 := zA0_in (f := τ 15) (p := (f_M_lastMark τ).toInt) (by omega) (by omega)
              have q5 := (hM (f_M_lastMark τ).toInt.toNat (by omega)).2 (by rw [← q4]; exact q3)
              have q6 := (i3 (f_M_lastMark τ).toInt (by omega) (by omega)).2
              exact absurd (Classical.not_not.mp q6) (by rw [hA]; exact q3)
          · intro q
            by_cases q2 : (τ 13 4).toInt ≤ (f_P_firstFilled 3 σ r (τ 13 4)).toInt
            · exact q2
            · have q3 := i4 (by omega)
              simp only [hA] at q3
              have q4 : r.toInt ≠ (f_P_firstFilled 3 σ r (τ 13 4)).toInt := fun q4 => q3 (by rw [← q4]; exact k4')
              exact absurd (l4 _ (by omega) (by omega)) q3
        by_cases g4 : f_M_lastMark τ ≤ r
        · rw [if_pos g4, if_pos (hiff.mpr g4)]
          exact ⟨rfl, Or.inl rfl⟩
        · rw [if_neg g4, if_neg (fun q => g4 (hiff.mp q))]
          exact ⟨rfl, Or.inr hin⟩
/-! fresh bytes -/
def zfrM (u3 : zSt) : Int32 × zSt := zlet (l_M_send_73 ((((u3 13 5)).toInt - ((u3 13 3)).toInt).toNat + 2) u3) (fun r11 => (if (r11 13 3) = (r11 13 5) then (0, r11) else zlet (f_M_flight r11) (fun r13 => (if (r11 13 6) ≤ (r11 13 3) then (if r13 = 0 then zseq (f_M_sends (zuf r11 13 3 ((r11 13 3) + 1)) (r11 13 3) ((r11 13 3) + 1)) (fun r18 u19 => (r18, u19)) else (if (r11 13 6) ≤ (r11 13 3) then (0, r11) else zlet (f_M_lesser r11 (r11 13 7) (r11 13 9)) (fun r23 => (if r23 < ((r13 + ((r11 13 3) + 1)) - (r11 13 3)) then (0, r11) else zseq (f_M_sends (zuf r11 13 3 ((r11 13 3) + 1)) (r11 13 3) ((r11 13 3) + 1)) (fun r28 u29 => (r28, u29)))))) else zlet (f_M_lesser r11 (r11 13 5) (r11 13 6)) (fun r31 => zlet (f_M_lesser r11 ((r11 13 3) + 4) r31) (fun r33 => zlet (f_M_markOr r11 (r11 13 3) r33) (fun r35 => (if r13 = 0 then zseq (f_M_sends (zuf r11 13 3 r35) (r11 13 3) r35) (fun r39 u40 => (r39, u40)) else (if (r11 13 6) ≤ (r11 13 3) then (0, r11) else zlet (f_M_lesser r11 (r11 13 7) (r11 13 9)) (fun r44 => (if r44 < ((r13 + r35) - (r11 13 3)) then (0, r11) else zseq (f_M_sends (zuf r11 13 3 r35) (r11 13 3) r35) (fun r49 u50 => (r49, u50)))))))))))))
def kfrM (u3 : zSt) : Prop := ((kl_M_send_73 ((((u3 13 5)).toInt - ((u3 13 3)).toInt).toNat + 2) u3) ∧ (∀ r11, r11 = (l_M_send_73 ((((u3 13 5)).toInt - ((u3 13 3)).toInt).toNat + 2) u3) → (¬ (r11 13 3) = (r11 13 5) → ((k_M_flight r11) ∧ (∀ r13, r13 = (f_M_flight r11) → (((r11 13 6) ≤ (r11 13 3) → ((r13 = 0 → (k_M_sends (zuf r11 13 3 ((r11 13 3) + 1)) (r11 13 3) ((r11 13 3) + 1))) ∧ (¬ r13 = 0 → (¬ (r11 13 6) ≤ (r11 13 3) → (∀ r23, r23 = (f_M_lesser r11 (r11 13 7) (r11 13 9)) → (¬ r23 < ((r13 + ((r11 13 3) + 1)) - (r11 13 3)) → (k_M_sends (zuf r11 13 3 ((r11 13 3) + 1)) (r11 13 3) ((r11 13 3) + 1)))))))) ∧ (¬ (r11 13 6) ≤ (r11 13 3) → (∀ r31, r31 = (f_M_lesser r11 (r11 13 5) (r11 13 6)) → (∀ r33, r33 = (f_M_lesser r11 ((r11 13 3) + 4) r31) → ((k_M_markOr r11 (r11 13 3) r33) ∧ (∀ r35, r35 = (f_M_markOr r11 (r11 13 3) r33) → ((r13 = 0 → (k_M_sends (zuf r11 13 3 r35) (r11 13 3) r35)) ∧ (¬ r13 = 0 → (¬ (r11 13 6) ≤ (r11 13 3) → (∀ r44, r44 = (f_M_lesser r11 (r11 13 7) (r11 13 9)) → (¬ r44 < ((r13 + r35) - (r11 13 3)) → (k_M_sends (zuf r11 13 3 r35) (r11 13 3) r35)))))))))))))))))
