/-! what an acknowledgment that is new does to the sender -/
theorem zspan (w : Int32) : 2 ≤ (if (if 2 < w then w else 2) < 64 then (if 2 < w then w else 2) else 64 : Int32).toInt ∧ (if (if 2 < w then w else 2) < 64 then (if 2 < w then w else 2) else 64 : Int32).toInt ≤ 64 := by
  have h : 2 ≤ (if 2 < w then w else 2 : Int32).toInt := by
    by_cases q : 2 < w
    · rw [if_pos q]
      rw [zlt, zt2] at q
      omega
    · rw [if_neg q]; decide
  generalize (if 2 < w then w else 2 : Int32) = y at *
  by_cases q : y < 64
  · rw [if_pos q]
    rw [zlt, zt64] at q
    exact ⟨h, by omega⟩
  · rw [if_neg q]
    exact ⟨by decide, by decide⟩
theorem sample_facts (σ : zSt) (d : Int32) : (∀ i, i ≠ 5 → f_T_takeSample σ d i = σ i) ∧ f_T_takeSample σ d 5 0 = σ 5 0 ∧ f_T_takeSample σ d 5 2 = σ 5 2 ∧ f_T_takeSample σ d 5 3 = σ 5 3 ∧ 2 ≤ (f_T_takeSample σ d 5 1).toInt ∧ (f_T_takeSample σ d 5 1).toInt ≤ 64 := by
  unfold f_T_takeSample
  by_cases c : σ 5 7 = 0
  · rw [if_pos c]
    refine ⟨fun i q => by rw [zuf_ne q, zuf_ne q, zuf_ne q, zuf_ne q], ?_, ?_, ?_, ?_⟩
    · rw [zuf_nj (by decide), zuf_nj (by decide), zuf_nj (by decide), zuf_nj (by decide)]
    · rw [zuf_nj (by decide), zuf_nj (by decide), zuf_nj (by decide), zuf_nj (by decide)]
    · rw [zuf_nj (by decide), zuf_nj (by decide), zuf_nj (by decide), zuf_nj (by decide)]
    · rw [zuf_eq]
      exact zspan _
  · rw [if_neg c]
    refine ⟨fun i q => by rw [zuf_ne q, zuf_ne q, zuf_ne q], ?_, ?_, ?_, ?_⟩
    · rw [zuf_nj (by decide), zuf_nj (by decide), zuf_nj (by decide)]
    · rw [zuf_nj (by decide), zuf_nj (by decide), zuf_nj (by decide)]
    · rw [zuf_nj (by decide), zuf_nj (by decide), zuf_nj (by decide)]
    · rw [zuf_eq]
      exact zspan _
theorem timing_facts (σ : zSt) (x : Int32) (h1 : 2 ≤ (σ 5 1).toInt) (h2 : (σ 5 1).toInt ≤ 64) : (∀ i, i ≠ 5 → f_T_endTiming σ x i = σ i) ∧ f_T_endTiming σ x 5 0 = σ 5 0 ∧ f_T_endTiming σ x 5 2 = σ 5 2 ∧ 2 ≤ (f_T_endTiming σ x 5 1).toInt ∧ (f_T_endTiming σ x 5 1).toInt ≤ 64 ∧ ((f_T_endTiming σ x 5 3).toInt = -1 ∨ (f_T_endTiming σ x 5 3 = σ 5 3 ∧ x.toInt < (σ 5 3).toInt)) := by
  unfold f_T_endTiming f_T_forgetTiming
  dsimp only [zlet]
  by_cases c1 : σ 5 3 = -1
  · rw [if_pos c1]
    exact ⟨fun _ _ => rfl, rfl, rfl, h1, h2, Or.inl (by rw [c1]; rfl)⟩
  · rw [if_neg c1]
    by_cases c2 : x < σ 5 3
    · rw [if_pos c2]
      exact ⟨fun _ _ => rfl, rfl, rfl, h1, h2, Or.inr ⟨rfl, zlt.mp c2⟩⟩
    · rw [if_neg c2]
      obtain ⟨s1, s2, s3, s4, s5, s6⟩ := sample_facts σ (σ 5 0 - σ 5 6)
      generalize f_T_takeSample σ (σ 5 0 - σ 5 6) = t at *
      refine ⟨fun i q => by rw [zuf_ne q, s1 i q], by rw [zuf_nj (by decide), s2], by rw [zuf_nj (by decide), s3], by rw [zuf_nj (by decide)]; exact s5, by rw [zuf_nj (by decide)]; exact s6, Or.inl (by rw [zuf_eq]; rfl)⟩
theorem grow_facts (σ : zSt) (h1 : 4 ≤ (σ 2 7).toInt) (h2 : (σ 2 7).toInt ≤ 256) : k_S_growCongestion σ ∧ ∃ c : Int32, f_S_growCongestion σ = zuf σ 2 7 c ∧ (σ 2 7).toInt ≤ c.toInt ∧ c.toInt ≤ (σ 2 7).toInt + 4 ∧ c.toInt ≤ 256 := by
  have hm : ∀ y : Int32, (σ 2 7).toInt ≤ y.toInt → y.toInt ≤ (σ 2 7).toInt + 4 → (σ 2 7).toInt ≤ (if y < 256 then y else 256 : Int32).toInt ∧ (if y < 256 then y else 256 : Int32).toInt ≤ (σ 2 7).toInt + 4 ∧ (if y < 256 then y else 256 : Int32).toInt ≤ 256 := by
    intro y g1 g2
    by_cases q : y < 256
    · rw [if_pos q]
      rw [zlt, zt256] at q
      exact ⟨g1, g2, by omega⟩
    · rw [if_neg q]
      rw [zlt, zt256] at q
      rw [zt256]
      exact ⟨h2, by omega, by omega⟩
  have c2 : ¬ σ 2 7 ≤ 0 := by rw [zle, zt0]; omega
  refine ⟨fun _ _ => by rw [zeq, zt0]; omega, ?_⟩
  unfold f_S_growCongestion
  by_cases c1 : σ 2 8 ≤ σ 2 7
  · rw [if_pos c1, if_neg c2]
    have hd : (16 / σ 2 7).toInt = 16 / (σ 2 7).toInt := by rw [zdiv (by decide) (by omega), zt16]
    have hd0 : 16 / (σ 2 7).toInt ≤ 4 := by
      exact Int.ediv_le_of_le_mul (by omega) (by omega)
    have hs : 1 ≤ (if 1 < 16 / σ 2 7 then 16 / σ 2 7 else 1 : Int32).toInt ∧ (if 1 < 16 / σ 2 7 then 16 / σ 2 7 else 1 : Int32).toInt ≤ 4 := by
      by_cases q : 1 < 16 / σ 2 7
      · rw [if_pos q]
        rw [zlt, zt1] at q
        exact ⟨by omega, by omega⟩
      · rw [if_neg q]; exact ⟨by decide, by decide⟩
    generalize (if 1 < 16 / σ 2 7 then 16 / σ 2 7 else 1 : Int32) = st at *
    have ha : (σ 2 7 + st).toInt = (σ 2 7).toInt + st.toInt := zadd (by omega) (by omega)
    exact ⟨_, rfl, hm _ (by omega) (by omega)⟩
  · rw [if_neg c1]
    have ha : (σ 2 7 + 4).toInt = (σ 2 7).toInt + 4 := by rw [zadd (by rw [zt4]; omega) (by rw [zt4]; omega), zt4]
    exact ⟨_, rfl, hm _ (by omega) (by omega)⟩
/-- A grows to x -/
def zAdv (σ u : zSt) (x : Int32) : Prop := (∀ i, i ≠ 2 → i ≠ 4 → i ≠ 5 → u i = σ i) ∧ u 4 = zclr σ 4 (σ 2 2).toInt x.toInt 4 ∧ u 2 2 = x ∧ (u 2 3).toInt = (if (σ 2 3).toInt ≤ x.toInt then x.toInt else (σ 2 3).toInt) ∧ u 2 10 = 0 ∧ (∀ j, j ≠ 2 → j ≠ 3 → j ≠ 7 → j ≠ 10 → j ≠ 11 → u 2 j = σ 2 j) ∧ (((σ 2 11).toInt = -1 ∧ (u 2 11).toInt = -1 ∧ (σ 2 7).toInt ≤ (u 2 7).toInt ∧ (u 2 7).toInt ≤ (σ 2 7).toInt + 4 ∧ (u 2 7).toInt ≤ 256) ∨ (¬ (σ 2 11).toInt = -1 ∧ x.toInt < (σ 2 11).toInt ∧ u 2 11 = σ 2 11 ∧ u 2 7 = σ 2 7) ∨ (¬ (σ 2 11).toInt = -1 ∧ (u 2 11).toInt = -1 ∧ u 2 7 = σ 2 8)) ∧ u 5 0 = σ 5 0 ∧ 2 ≤ (u 5 1).toInt ∧ (u 5 1).toInt ≤ 64 ∧ u 5 2 = (if x = u 2 3 then -1 else σ 5 0 + u 5 1) ∧ ((u 5 3).toInt = -1 ∨ (u 5 3 = σ 5 3 ∧ x.toInt < (σ 5 3).toInt))
theorem advance {σ : zSt} {x : Int32} (h0 : 0 ≤ (σ 2 2).toInt) (hx : x.toInt ≤ 600) (h1 : 4 ≤ (σ 2 7).toInt) (h2 : (σ 2 7).toInt ≤ 256) (h3 : 2 ≤ (σ 5 1).toInt) (h4 : (σ 5 1).toInt ≤ 64) : k_S_advanceTo σ x ∧ zAdv σ (f_S_advanceTo σ x) x := by
  obtain ⟨t1, t2, t3, t4, t5, t6⟩ := timing_facts σ x h3 h4
  generalize hu1 : f_T_endTiming σ x = u1 at *
  have u12 : u1 2 = σ 2 := t1 2 (by decide)
  obtain ⟨k1, e1⟩ := P_empty 3 u1 (u1 2 2) x (by rw [u12]; exact h0) hx
  rw [show (3 + 1 : Nat) = 4 from rfl, u12] at e1
  rw [u12] at k1
  generalize hu3 : f_P_empty 3 u1 (σ 2 2) x = u3 at *
  have w2 : u3 2 = σ 2 := by rw [e1, zclr_ne (by decide), u12]
  have w5 : u3 5 = u1 5 := by rw [e1, zclr_ne (by decide)]
  have w4 : u3 4 = zclr σ 4 (σ 2 2).toInt x.toInt 4 := by
    rw [e1]
    funext j
    unfold zclr
    rw [t1 4 (by decide)]
  have wne : ∀ i, i ≠ 2 → i ≠ 4 → i ≠ 5 → u3 i = σ i := fun i q1 q2 q3 => by rw [e1, zclr_ne q2, t1 i q3]
  have hNe : (if σ 2 3 < x then x else σ 2 3).toInt = (if (σ 2 3).toInt ≤ x.toInt then x.toInt else (σ 2 3).toInt) := by rw [zmx_lt, zmx_t]
  have hk : k_S_advanceTo σ x = (∀ u1, u1 = (f_T_endTiming σ x) → ((k_P_empty 3 u1 (u1 2 2) x) ∧ (∀ u3, u3 = (f_P_empty 3 u1 (u1 2 2) x) → ((u3 2 11) = (-1) → (k_S_growCongestion (zuf (zuf (zuf u3 2 2 x) 2 3 (if (u3 2 3) < x then x else (u3 2 3))) 2 10 0)))))) := rfl
  rw [hk]
  unfold f_S_advanceTo f_T_stop f_T_startAnew
  dsimp only [zlet]
  rw [hu1, u12, hu3, w2]
  generalize hN : (if σ 2 3 < x then x else σ 2 3) = N at *
  have g7 : zuf (zuf (zuf u3 2 2 x) 2 3 N) 2 10 0 2 7 = σ 2 7 := by rw [zuf_nj (by decide), zuf_nj (by decide), zuf_nj (by decide), w2]
  obtain ⟨kg, c, eg, g1, g2, g3⟩ := grow_facts (zuf (zuf (zuf u3 2 2 x) 2 3 N) 2 10 0) (by rw [g7]; exact h1) (by rw [g7]; exact h2)
  rw [g7] at g1 g2
  refine ⟨fun u1' q1 => ?_, ?_⟩
  · subst q1
    rw [u12]
    refine ⟨k1, fun u3' q3 _ => ?_⟩
    rw [hu3] at q3
    subst q3
    rw [w2, hN]
    exact kg
  · have fin : ∀ v : zSt, (∀ i, i ≠ 2 → i ≠ 4 → i ≠ 5 → v i = σ i) → v 4 = u3 4 → v 5 = u3 5 → v 2 2 = x → v 2 3 = N → v 2 10 = 0 → (∀ j, j ≠ 2 → j ≠ 3 → j ≠ 7 → j ≠ 10 → j ≠ 11 → v 2 j = σ 2 j) → (((σ 2 11).toInt = -1 ∧ (v 2 11).toInt = -1 ∧ (σ 2 7).toInt ≤ (v 2 7).toInt ∧ (v 2 7).toInt ≤ (σ 2 7).toInt + 4 ∧ (v 2 7).toInt ≤ 256) ∨ (¬ (σ 2 11).toInt = -1 ∧ x.toInt < (σ 2 11).toInt ∧ v 2 11 = σ 2 11 ∧ v 2 7 = σ 2 7) ∨ (¬ (σ 2 11).toInt = -1 ∧ (v 2 11).toInt = -1 ∧ v 2 7 = σ 2 8)) → zAdv σ (if x = N then zuf v 5 2 (-1) else zuf v 5 2 (v 5 0 + v 5 1)) x := by
      intro v a1 a2 a3 a4 a5 a6 a7 a8
      have b0 : v 5 0 = σ 5 0 := by rw [a3, w5, t2]
      have b1 : v 5 1 = u1 5 1 := by rw [a3, w5]
      have b3 : v 5 3 = u1 5 3 := by rw [a3, w5]
      have all : ∀ y : Int32, y = (if x = N then -1 else σ 5 0 + v 5 1) → zAdv σ (zuf v 5 2 y) x := by
        intro y hy
        refine ⟨fun i q1 q2 q3 => by rw [zuf_ne q3, a1 i q1 q2 q3], by rw [zuf_ne (by decide), a2, w4], by rw [zuf_ne (by decide), a4], by rw [zuf_ne (by decide), a5]; exact hNe, by rw [zuf_ne (by decide), a6], fun j q1 q2 q3 q4 q5 => by rw [zuf_ne (by decide), a7 j q1 q2 q3 q4 q5], by rw [zuf_ne (by decide)]; exact a8, by rw [zuf_nj (by decide), b0], by rw [zuf_nj (by decide), b1]; exact t4, by rw [zuf_nj (by decide), b1]; exact t5, ?_, by rw [zuf_nj (by decide), b3]; exact t6⟩
        rw [zuf_eq, hy, zuf_ne (by decide), a5, zuf_nj (by decide)]
      by_cases q : x = N
      · rw [if_pos q]
        exact all _ (by rw [if_pos q])
      · rw [if_neg q]
        exact all _ (by rw [if_neg q, b0])
    by_cases c1 : σ 2 11 = -1
    · rw [if_pos c1, eg]
      have hc1 : (σ 2 11).toInt = -1 := by rw [c1]; rfl
      have e22 : zuf (zuf (zuf (zuf u3 2 2 x) 2 3 N) 2 10 0) 2 7 c 2 2 = x := by simp [zuf_at]
      have e23 : zuf (zuf (zuf (zuf u3 2 2 x) 2 3 N) 2 10 0) 2 7 c 2 3 = N := by simp [zuf_at]
      rw [e22, e23]
      refine fin _ (fun i q1 q2 q3 => by rw [zuf_ne q1, zuf_ne q1, zuf_ne q1, zuf_ne q1, wne i q1 q2 q3]) (by rw [zuf_ne (by decide), zuf_ne (by decide), zuf_ne (by decide), zuf_ne (by decide)]) (by rw [zuf_ne (by decide), zuf_ne (by decide), zuf_ne (by decide), zuf_ne (by decide)]) e22 e23 (by simp [zuf_at]) (fun j q1 q2 q3 q4 q5 => by rw [zuf_nj q3, zuf_nj q4, zuf_nj q2, zuf_nj q1, w2]) (Or.inl ⟨hc1, ?_, ?_⟩)
      · rw [zuf_nj (by decide), zuf_nj (by decide), zuf_nj (by decide), zuf_nj (by decide), w2]; exact hc1
      · rw [zuf_eq]; exact ⟨g1, g2, g3⟩
    · rw [if_neg c1]
      have hc1 : ¬ (σ 2 11).toInt = -1 := by rw [zeq, ztm1] at c1; exact c1
      by_cases c2 : x < σ 2 11
      · rw [if_pos c2]
        refine fin _ (fun i q1 q2 q3 => by rw [zuf_ne q1, zuf_ne q1, zuf_ne q1, wne i q1 q2 q3]) (by rw [zuf_ne (by decide), zuf_ne (by decide), zuf_ne (by decide)]) (by rw [zuf_ne (by decide), zuf_ne (by decide), zuf_ne (by decide)]) (by simp [zuf_at]) (by simp [zuf_at]) (by simp [zuf_at]) (fun j q1 q2 q3 q4 q5 => by rw [zuf_nj q4, zuf_nj q2, zuf_nj q1, w2]) (Or.inr (Or.inl ⟨hc1, zlt.mp c2, ?_, g7⟩))
        rw [zuf_nj (by decide), zuf_nj (by decide), zuf_nj (by decide), w2]
      · rw [if_neg c2]
        refine fin _ (fun i q1 q2 q3 => by rw [zuf_ne q1, zuf_ne q1, zuf_ne q1, zuf_ne q1, zuf_ne q1, wne i q1 q2 q3]) (by rw [zuf_ne (by decide), zuf_ne (by decide), zuf_ne (by decide), zuf_ne (by decide), zuf_ne (by decide)]) (by rw [zuf_ne (by decide), zuf_ne (by decide), zuf_ne (by decide), zuf_ne (by decide), zuf_ne (by decide)]) (by simp [zuf_at]) (by simp [zuf_at]) (by simp [zuf_at]) (fun j q1 q2 q3 q4 q5 => by rw [zuf_nj q3, zuf_nj q5, zuf_nj q4, zuf_nj q2, zuf_nj q1, w2]) (Or.inr (Or.inr ⟨hc1, ?_, ?_⟩))
        · rw [zuf_nj (by decide), zuf_eq]; rfl
        · rw [zuf_eq]
