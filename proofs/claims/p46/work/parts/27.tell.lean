/-! an acknowledgment is made -/
/-- a block, told by its start and its end -/
def zBk (σ : zSt) (s e : Int32) : Prop := (σ 6 2).toInt < s.toInt ∧ s.toInt < e.toInt ∧ e.toInt ≤ 600 ∧ (∀ p, s.toInt ≤ p → p < e.toInt → ¬ zA0 (σ 8) p = 0)
theorem zBk_of {σ σ' : zSt} {s e : Int32} (h : zBk σ s e) (e6 : σ' 6 = σ 6) (e8 : σ' 8 = σ 8) : zBk σ' s e := by
  unfold zBk
  rw [e6, e8]
  exact h
theorem newest_of {σ : zSt} {x : Int32} (h : zRcv σ) (c : ¬ f_R_newestBlockBefore σ x = -1) : zBk σ (f_R_newestBlockBefore σ x) (f_R_endOfRun σ (f_R_newestBlockBefore σ x)) := by
  have hs := (newest h x).2.resolve_left c
  obtain ⟨e1, e2, e3, e4⟩ := runEnd h hs
  exact ⟨hs.1, e1, e2, e4⟩
theorem zidx2 {x : Int32} (h0 : 0 ≤ x.toInt) (h1 : x.toInt ≤ 3) : (3 + 2 * x).toInt = 3 + 2 * x.toInt ∧ (3 + 2 * x + 1).toInt = 4 + 2 * x.toInt := by
  have e1 : (2 * x).toInt = 2 * x.toInt := by rw [zmul (by rw [zt2]; omega) (by rw [zt2]; omega), zt2]
  have e2 : (3 + 2 * x).toInt = 3 + 2 * x.toInt := by rw [zadd (by rw [zt3]; omega) (by rw [zt3]; omega), zt3, e1]
  refine ⟨e2, ?_⟩
  rw [zinc' (by omega), e2]
  omega
theorem l_tell (a : Int32) (ha0 : 0 ≤ a.toInt) (ha1 : a.toInt < 40) : ∀ (m : Nat) (σ : zSt) (x3 x4 x5 : Int32), zRcv σ → 0 ≤ x5.toInt → x5.toInt ≤ 3 → (x3 = x5 ∨ (0 ≤ x3.toInt ∧ x3.toInt ≤ 3 ∧ f_R_newestBlockBefore σ x4 = -1)) → (∀ k : Nat, (k : Int) < x3.toInt → zBk σ (σ 12 (9 * a.toInt.toNat + (3 + 2 * k))) (σ 12 (9 * a.toInt.toNat + (4 + 2 * k)))) → (3 - x5.toInt).toNat < m → kl_R_tellBlocks_13 a m σ x3 x4 x5 ∧ 0 ≤ (l_R_tellBlocks_13 a m σ x3 x4 x5).1.toInt ∧ (l_R_tellBlocks_13 a m σ x3 x4 x5).1.toInt ≤ 3 ∧ (∀ i, i ≠ 12 → (l_R_tellBlocks_13 a m σ x3 x4 x5).2 i = σ i) ∧ (∀ j, ¬ (9 * a.toInt.toNat + 3 ≤ j ∧ j < 9 * a.toInt.toNat + 9) → (l_R_tellBlocks_13 a m σ x3 x4 x5).2 12 j = σ 12 j) ∧ (∀ k : Nat, (k : Int) < (l_R_tellBlocks_13 a m σ x3 x4 x5).1.toInt → zBk σ ((l_R_tellBlocks_13 a m σ x3 x4 x5).2 12 (9 * a.toInt.toNat + (3 + 2 * k))) ((l_R_tellBlocks_13 a m σ x3 x4 x5).2 12 (9 * a.toInt.toNat + (4 + 2 * k)))) := by
  intro m
  induction m with
  | zero => intro σ x3 x4 x5 _ _ _ _ _ hm; omega
  | succ m ih =>
    intro σ x3 x4 x5 h h50 h53 h3 hk hm
    have hx3 : 0 ≤ x3.toInt ∧ x3.toInt ≤ 3 := by
      rcases h3 with h3 | h3
      · rw [h3]; exact ⟨h50, h53⟩
      · exact ⟨h3.1, h3.2.1⟩
    unfold kl_R_tellBlocks_13 l_R_tellBlocks_13
    by_cases c1 : 3 ≤ x5
    · rw [if_pos c1]
      exact ⟨fun q => absurd c1 q, hx3.1, hx3.2, fun _ _ => rfl, fun _ _ => rfl, hk⟩
    · rw [if_neg c1]
      have c1' := c1
      rw [zle, zt3] at c1'
      have hi : (x5 + 1).toInt = x5.toInt + 1 := zinc' (by omega)
      obtain ⟨n1, n2⟩ := newest h x4
      dsimp only [zlet]
      by_cases c2 : f_R_newestBlockBefore σ x4 = -1
      · rw [if_pos c2]
        obtain ⟨i1, i2⟩ := ih σ x3 x4 (x5 + 1) h (by omega) (by omega) (Or.inr ⟨hx3.1, hx3.2, c2⟩) hk (by omega)
        exact ⟨fun _ => ⟨n1, fun r2 e2 => ⟨fun _ => i1, fun q => absurd (e2.trans c2) q⟩⟩, i2⟩
      · rw [if_neg c2]
        have h35 : x3 = x5 := by
          rcases h3 with h3 | h3
          · exact h3
          · exact absurd h3.2.2 c2
        subst h35
        have hb := newest_of h c2
        have hz := zidx2 h50 (by omega)
        generalize hs : f_R_newestBlockBefore σ x4 = s at *
        generalize he : f_R_endOfRun σ s = e at *
        obtain ⟨k1, q1⟩ := W_set11 (σ := σ) (a := a) (i := 3 + 2 * x3) (v := s) ha0 ha1 (by omega) (by omega)
        obtain ⟨k2, q2⟩ := W_set11 (σ := f_W_setCell 11 σ a (3 + 2 * x3) s) (a := a) (i := 3 + 2 * x3 + 1) (v := e) ha0 ha1 (by omega) (by omega)
        generalize hu : f_W_setCell 11 (f_W_setCell 11 σ a (3 + 2 * x3) s) a (3 + 2 * x3 + 1) e = u at *
        rw [q1] at q2
        rw [hz.1, hz.2] at q2
        obtain ⟨n, hn⟩ : ∃ n : Nat, x3.toInt = n := ⟨x3.toInt.toNat, by omega⟩
        rw [show (4 + 2 * x3.toInt).toNat = 4 + 2 * n by omega, show (3 + 2 * x3.toInt).toNat = 3 + 2 * n by omega] at q2
        have e6 : u 6 = σ 6 := by rw [q2, zuf_ne (by decide), zuf_ne (by decide)]
        have e8 : u 8 = σ 8 := by rw [q2, zuf_ne (by decide), zuf_ne (by decide)]
        have hne : ∀ i, i ≠ 12 → u i = σ i := fun i q => by rw [q2, zuf_ne q, zuf_ne q]
        have hj : ∀ j, j ≠ 9 * a.toInt.toNat + (3 + 2 * n) → j ≠ 9 * a.toInt.toNat + (4 + 2 * n) → u 12 j = σ 12 j := fun j g1 g2 => by
          rw [q2, zuf_nj g2, zuf_nj g1]
        have hA : u 12 (9 * a.toInt.toNat + (3 + 2 * n)) = s := by rw [q2, zuf_nj (by omega), zuf_eq]
        have hB : u 12 (9 * a.toInt.toNat + (4 + 2 * n)) = e := by rw [q2, zuf_eq]
        obtain ⟨i1, i2, i3, i4, i5, i6⟩ := ih u (x3 + 1) (f_P_greatest 7 u s e) (x3 + 1) (zRcv_of h e6 e8) (by omega) (by omega) (Or.inl rfl) (fun k hk1 => by
          by_cases g : k = n
          · subst g
            rw [hA, hB]
            exact zBk_of hb e6 e8
          · rw [hj _ (by omega) (by omega), hj _ (by omega) (by omega)]
            exact zBk_of (hk k (by omega)) e6 e8) (by omega)
        refine ⟨fun _ => ⟨n1, fun r2 f2 => ⟨fun q => absurd (f2.symm.trans q) c2, fun _ => ?_⟩⟩, i2, i3, fun i q => by rw [i4 i q, hne i q], fun j q => by rw [i5 j q, hj j (by omega) (by omega)], fun k q => zBk_of (i6 k q) e6.symm e8.symm⟩
        subst f2
        refine ⟨(endOfRun σ r2).1, fun r5 f5 => ?_⟩
        rw [he] at f5
        subst f5
        refine ⟨k1, fun u7 f7 => ?_⟩
        subst f7
        refine ⟨k2, fun u9 f9 => ?_⟩
        rw [hu] at f9
        subst f9
        exact ⟨greatest _ _ _ _, fun r11 f11 => by subst f11; exact i1⟩
theorem tellBlocks {σ : zSt} (h : zRcv σ) (a : Int32) (ha0 : 0 ≤ a.toInt) (ha1 : a.toInt < 40) : k_R_tellBlocks σ a ∧ 0 ≤ (f_R_tellBlocks σ a).1.toInt ∧ (f_R_tellBlocks σ a).1.toInt ≤ 3 ∧ (∀ i, i ≠ 12 → (f_R_tellBlocks σ a).2 i = σ i) ∧ (∀ j, ¬ (9 * a.toInt.toNat + 3 ≤ j ∧ j < 9 * a.toInt.toNat + 9) → (f_R_tellBlocks σ a).2 12 j = σ 12 j) ∧ (∀ k : Nat, (k : Int) < (f_R_tellBlocks σ a).1.toInt → zBk σ ((f_R_tellBlocks σ a).2 12 (9 * a.toInt.toNat + (3 + 2 * k))) ((f_R_tellBlocks σ a).2 12 (9 * a.toInt.toNat + (4 + 2 * k)))) :=
  l_tell a ha0 ha1 (((3 : Int32).toInt - (0 : Int32).toInt).toNat + 2) σ 0 (σ 6 1 + 1) 0 h (by decide) (by decide) (Or.inl rfl) (fun k q => by rw [zt0] at q; omega) (by decide)
def zmkA (σ : zSt) : zSt := zseq (f_W_addRow 11 σ) (fun r4 u5 => zlet (f_W_setCell 11 u5 r4 0 (u5 6 2)) (fun u7 => zlet (f_R_room u7) (fun r9 => zlet (f_W_setCell 11 u7 r4 1 r9) (fun u11 => zseq (f_R_tellBlocks u11 r4) (fun r13 u14 => zlet (f_W_setCell 11 u14 r4 2 r13) (fun u16 => u16))))))
def kmkA (σ : zSt) : Prop := (∀ r4 u5, (r4, u5) = (f_W_addRow 11 σ) → ((k_W_setCell 11 u5 r4 0 (u5 6 2)) ∧ (∀ u7, u7 = (f_W_setCell 11 u5 r4 0 (u5 6 2)) → (∀ r9, r9 = (f_R_room u7) → ((k_W_setCell 11 u7 r4 1 r9) ∧ (∀ u11, u11 = (f_W_setCell 11 u7 r4 1 r9) → ((k_R_tellBlocks u11 r4) ∧ (∀ r13 u14, (r13, u14) = (f_R_tellBlocks u11 r4) → (k_W_setCell 11 u14 r4 2 r13)))))))))
theorem zadd_row {c : Nat} {σ : zSt} (h0 : 0 ≤ (σ c 2).toInt) (h1 : (σ c 2).toInt < 40) : f_W_addRow c σ = (σ c 2, zuf σ c 2 (σ c 2 + 1)) := by
  unfold f_W_addRow
  rw [if_neg (by rw [zle, zt40]; omega)]
  rw [show σ c 2 + 1 - 1 = σ c 2 by rw [zeq, zdec1 (by rw [zinc' (by omega)]; omega), zinc' (by omega)]; omega]
/-- row i of the list of acknowledgments -/
def zNewRow (σ u : zSt) (n : Nat) : Prop := u 12 (9 * n) = σ 6 2 ∧ (u 12 (9 * n + 1)).toInt = (σ 6 3).toInt + 32 - (σ 6 2).toInt ∧ 0 ≤ (u 12 (9 * n + 2)).toInt ∧ (u 12 (9 * n + 2)).toInt ≤ 3 ∧ (∀ k : Nat, (k : Int) < (u 12 (9 * n + 2)).toInt → zBk σ (u 12 (9 * n + (3 + 2 * k))) (u 12 (9 * n + (4 + 2 * k))))
theorem makeA {σ : zSt} (h : zRcv σ) (n : Nat) (hn : (σ 11 2).toInt = n) (hn4 : n < 40) : kmkA σ ∧ (zmkA σ 11 2).toInt = n + 1 ∧ (∀ i, i ≠ 11 → i ≠ 12 → zmkA σ i = σ i) ∧ (∀ j, ¬ (9 * n ≤ j ∧ j < 9 * n + 9) → zmkA σ 12 j = σ 12 j) ∧ zNewRow σ (zmkA σ) n := by
  have ha := zadd_row (c := 11) (σ := σ) (by omega) (by omega)
  have h' := h
  obtain ⟨r0, r1, r2, r3⟩ := h'
  have hN : (σ 11 2).toInt.toNat = n := by omega
  have hi : (σ 11 2 + 1).toInt = n + 1 := by rw [zinc' (by omega)]; omega
  generalize ht : zuf σ 11 2 (σ 11 2 + 1) = t at ha
  have t6 : t 6 = σ 6 := by rw [← ht, zuf_ne (by decide)]
  have t8 : t 8 = σ 8 := by rw [← ht, zuf_ne (by decide)]
  have t12 : t 12 = σ 12 := by rw [← ht, zuf_ne (by decide)]
  have t112 : t 11 2 = σ 11 2 + 1 := by rw [← ht, zuf_eq]
  have tne : ∀ i, i ≠ 11 → t i = σ i := fun i q => by rw [← ht, zuf_ne q]
  generalize ha2 : σ 11 2 = a at *
  obtain ⟨k1, q1⟩ := W_set11 (σ := t) (a := a) (i := 0) (v := t 6 2) (by omega) (by omega) (by decide) (by decide)
  rw [hN, show (0 : Int32).toInt.toNat = 0 from rfl, Nat.add_zero] at q1
  generalize hu7 : f_W_setCell 11 t a 0 (t 6 2) = u7 at *
  have e1 : (σ 6 3 + 32).toInt = (σ 6 3).toInt + 32 := by rw [zadd (by rw [zt32]; omega) (by rw [zt32]; omega), zt32]
  have u76 : u7 6 = σ 6 := by rw [q1, zuf_ne (by decide), t6]
  have u78 : u7 8 = σ 8 := by rw [q1, zuf_ne (by decide), t8]
  have hr9 : (f_R_room u7).toInt = (σ 6 3).toInt + 32 - (σ 6 2).toInt := by
    unfold f_R_room
    rw [u76, zsub (by omega) (by omega), e1]
  generalize hw : f_R_room u7 = r9 at *
  obtain ⟨k2, q2⟩ := W_set11 (σ := u7) (a := a) (i := 1) (v := r9) (by omega) (by omega) (by decide) (by decide)
  rw [hN, show (1 : Int32).toInt.toNat = 1 from rfl] at q2
  generalize hu11 : f_W_setCell 11 u7 a 1 r9 = u11 at *
  have u116 : u11 6 = σ 6 := by rw [q2, zuf_ne (by decide), u76]
  have u118 : u11 8 = σ 8 := by rw [q2, zuf_ne (by decide), u78]
  obtain ⟨k3, g1, g2, g3, g4, g5⟩ := tellBlocks (zRcv_of h u116 u118) a (by omega) (by omega)
  rw [hN] at g4 g5
  generalize hp : f_R_tellBlocks u11 a = w at *
  obtain ⟨r13, u14⟩ := w
  dsimp only at g1 g2 g3 g4 g5
  obtain ⟨k4, q4⟩ := W_set11 (σ := u14) (a := a) (i := 2) (v := r13) (by omega) (by omega) (by decide) (by decide)
  rw [hN, show (2 : Int32).toInt.toNat = 2 from rfl] at q4
  have hz : zmkA σ = f_W_setCell 11 u14 a 2 r13 := by
    unfold zmkA
    rw [ha]
    dsimp only [zlet, zseq]
    rw [hu7, hw, hu11, hp]
  rw [hz, q4]
  have e12 : ∀ j, ¬ (9 * n + 3 ≤ j ∧ j < 9 * n + 9) → j ≠ 9 * n + 1 → j ≠ 9 * n → u14 12 j = σ 12 j := fun j c1 c2 c3 => by
    rw [g4 j c1, q2, zuf_nj c2, q1, zuf_nj c3, t12]
  refine ⟨?_, ?_, fun i c1 c2 => ?_, fun j c => ?_, ?_, ?_, ?_, ?_, ?_⟩
  · intro r4 u5 e
    rw [ha] at e
    obtain ⟨rfl, rfl⟩ := Prod.mk.inj e
    refine ⟨k1, fun u e => ?_⟩
    rw [hu7] at e
    subst e
    intro r e
    rw [hw] at e
    subst e
    refine ⟨k2, fun u e => ?_⟩
    rw [hu11] at e
    subst e
    refine ⟨k3, fun r u e => ?_⟩
    rw [hp] at e
    obtain ⟨rfl, rfl⟩ := Prod.mk.inj e
    exact k4
  · rw [zuf_ne (by decide), g3 11 (by decide), q2, zuf_ne (by decide), q1, zuf_ne (by decide), t112, hi]
  · rw [zuf_ne c2, g3 i c2, q2, zuf_ne c2, q1, zuf_ne c2, tne i c1]
  · rw [zuf_nj (by omega), e12 j (by omega) (by omega) (by omega)]
  · rw [zuf_nj (by omega), g4 _ (by omega), q2, zuf_nj (by omega), q1, zuf_eq, t6]
  · rw [zuf_nj (by omega), g4 _ (by omega), q2, zuf_eq]; exact hr9
  · rw [zuf_eq]; exact g1
  · rw [zuf_eq]; exact g2
  · intro k hk
    rw [zuf_eq] at hk
    rw [zuf_nj (by omega), zuf_nj (by omega)]
    exact zBk_of (g5 k hk) u116.symm u118.symm
/-- what a new acknowledgment does: a full list loses its first (d = 1) -/
theorem makeAck {σ : zSt} (h : zRcv σ) (h0 : 0 ≤ (σ 11 2).toInt) (h1 : (σ 11 2).toInt ≤ 40) : k_R_makeAck σ ∧ ∃ n d : Nat, n < 40 ∧ (σ 11 2).toInt = n + d ∧ (d = if (σ 11 2).toInt = 40 then 1 else 0) ∧ (f_R_makeAck σ 11 2).toInt = n + 1 ∧ (∀ i, i ≠ 11 → i ≠ 12 → f_R_makeAck σ i = σ i) ∧ (∀ i j : Nat, i < n → j < 9 → f_R_makeAck σ 12 (9 * i + j) = σ 12 (9 * (i + d) + j)) ∧ zNewRow σ (f_R_makeAck σ) n := by
  have fA : f_R_makeAck σ = if f_W_isFull 11 σ = 0 then zmkA σ else zmkA (f_W_remove 11 σ 0) := rfl
  have fK : k_R_makeAck σ = (∀ r1, r1 = (f_W_isFull 11 σ) → ((r1 = 0 → kmkA σ) ∧ (¬ r1 = 0 → ((k_W_remove 11 σ 0) ∧ (∀ u18, u18 = (f_W_remove 11 σ 0) → kmkA u18))))) := rfl
  rw [fK]
  by_cases g : (σ 11 2).toInt = 40
  · have g2 : ¬ f_W_isFull 11 σ = 0 := by
      unfold f_W_isFull
      rw [if_neg (by rw [zlt, zt40]; omega)]
      decide
    rw [if_neg g2] at fA
    obtain ⟨k1, q1⟩ := W_remove11 (σ := σ) (a := 0) (by decide) (by rw [zt0]; omega) (by omega)
    rw [g, zt0] at q1
    have hd : (σ 11 2 - 1).toInt = 39 := by rw [zdec1 (by omega)]; omega
    rw [fA]
    generalize hs : f_W_remove 11 σ 0 = s at *
    have s6 : s 6 = σ 6 := by rw [q1, zshf_ne (by decide), zuf_ne (by decide)]
    have s8 : s 8 = σ 8 := by rw [q1, zshf_ne (by decide), zuf_ne (by decide)]
    have s112 : (s 11 2).toInt = (39 : Nat) := by rw [q1, zshf_ne (by decide), zuf_eq, hd]; rfl
    obtain ⟨m1, m2, m3, m4, m5⟩ := makeA (zRcv_of h s6 s8) 39 s112 (by decide)
    refine ⟨fun r e => ⟨fun q => absurd (e.symm.trans q) g2, fun _ => ⟨k1, fun u e => by subst e; exact m1⟩⟩, 39, 1, by decide, by rw [g]; rfl, by rw [if_pos g], m2, fun i c1 c2 => ?_, fun i j c1 c2 => ?_, ?_⟩
    · rw [m3 i c1 c2, q1, zshf_ne (by simp [c2]), zuf_ne c1]
    · rw [m4 _ (by omega), q1, zshf_at (by decide), if_pos (by omega), zuf_ne (by decide)]
      congr 1
      omega
    · obtain ⟨n1, n2, n3, n4, n5⟩ := m5
      rw [s6] at n1 n2
      exact ⟨n1, n2, n3, n4, fun k hk => zBk_of (n5 k hk) s6.symm s8.symm⟩
  · have g2 : f_W_isFull 11 σ = 0 := by
      unfold f_W_isFull
      rw [if_pos (by rw [zlt, zt40]; omega)]
    rw [if_pos g2] at fA
    rw [fA]
    obtain ⟨n, hn⟩ : ∃ n : Nat, (σ 11 2).toInt = n := ⟨(σ 11 2).toInt.toNat, by omega⟩
    obtain ⟨m1, m2, m3, m4, m5⟩ := makeA h n hn (by omega)
    refine ⟨fun r e => ⟨fun _ => m1, fun q => absurd (e.trans g2) q⟩, n, 0, by omega, by rw [hn]; omega, by rw [if_neg g], m2, m3, fun i j c1 c2 => ?_, m5⟩
    rw [m4 _ (by omega)]
    rfl
