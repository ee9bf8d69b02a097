/-! an acknowledgment's blocks are marked -/
theorem l_mark (a x z1 z2 : Int32) (ha0 : 0 ≤ a.toInt) (ha1 : a.toInt < 40) (hx0 : 0 ≤ x.toInt) (hx3 : x.toInt ≤ 3) : ∀ (m m' : Nat) (σ τ : zSt) (y y' : Int32), zEq (σ 4) (τ 15) → zBM (τ 15) (τ 13) → zAkB (σ 12) (τ 23) (τ 24) → (∀ j : Nat, j < 120 → 0 ≤ (τ 23 j).toInt ∧ (τ 24 j).toInt ≤ (τ 13 4).toInt) → (τ 13 4).toInt ≤ 600 → σ 2 2 = τ 13 2 → 0 ≤ (τ 13 2).toInt → τ 22 a.toInt.toNat = x → 0 ≤ y.toInt → y'.toInt = 3 * a.toInt + y.toInt → (x.toInt - y.toInt).toNat < m → (x.toInt - y.toInt).toNat < m' → kl_S_markBlocks_14 a x m σ y ∧ kl_M_arrives_92 a z1 z2 m' τ y' ∧ zEq (l_S_markBlocks_14 a x m σ y 4) (l_M_arrives_92 a z1 z2 m' τ y' 15) ∧ zBM (l_M_arrives_92 a z1 z2 m' τ y' 15) (τ 13) ∧ (∀ i, i ≠ 4 → l_S_markBlocks_14 a x m σ y i = σ i) ∧ (∀ i, i ≠ 15 → l_M_arrives_92 a z1 z2 m' τ y' i = τ i) := by
  intro m
  induction m with
  | zero => intro m' σ τ y y' _ _ _ _ _ _ _ _ _ _ h; omega
  | succ m ih =>
    intro m' σ τ y y' hE hM hB hw hh c2 h2 hx hy hy' h3 h4
    obtain ⟨m'', rfl⟩ : ∃ k, m' = k + 1 := ⟨m' - 1, by omega⟩
    have han : a.toNatClampNeg = a.toInt.toNat := rfl
    have hb := (zidx3 (a := a) (x := x) ha0 (by omega) hx0 hx3).2
    have hva : vp_in a 40 := zvin ha0 (by omega)
    unfold kl_S_markBlocks_14 l_S_markBlocks_14 kl_M_arrives_92 l_M_arrives_92
    rw [han, hx]
    by_cases g1 : x ≤ y
    · have g2 : 3 * a + x ≤ y' := by rw [zle, hb]; rw [zle] at g1; omega
      rw [if_pos g1, if_pos g2]
      exact ⟨fun q => absurd g1 q, ⟨hva, fun q => absurd g2 q⟩, hE, hM, fun _ _ => rfl, fun _ _ => rfl⟩
    · have g1' := g1
      rw [zle] at g1'
      have g2 : ¬ 3 * a + x ≤ y' := by rw [zle, hb]; omega
      rw [if_neg g1, if_neg g2]
      have hx2 : (2 * y).toInt = 2 * y.toInt := by
        rw [zmul (by rw [zt2]; omega) (by rw [zt2]; omega), zt2]
      have hc3 : (3 + 2 * y).toInt = 3 + 2 * y.toInt := by
        rw [zadd (by rw [zt3]; omega) (by rw [zt3]; omega), zt3, hx2]
      have hc4 : (3 + 2 * y + 1).toInt = 4 + 2 * y.toInt := by
        rw [zinc' (by omega), hc3]; omega
      obtain ⟨s1, s2⟩ := W_cell11 (σ := σ) (a := a) (i := 3 + 2 * y) ha0 ha1 (by omega) (by omega)
      obtain ⟨s3, s4⟩ := W_cell11 (σ := σ) (a := a) (i := 3 + 2 * y + 1) ha0 ha1 (by omega) (by omega)
      have hBy := hB a.toInt.toNat (by omega) y.toInt.toNat (by omega)
      have n1 : 9 * a.toInt.toNat + (3 + 2 * y).toInt.toNat = 9 * a.toInt.toNat + 3 + 2 * y.toInt.toNat := by omega
      have n2 : 9 * a.toInt.toNat + (3 + 2 * y + 1).toInt.toNat = 9 * a.toInt.toNat + 4 + 2 * y.toInt.toNat := by omega
      rw [n1, hBy.1] at s2
      rw [n2, hBy.2] at s4
      have hyn : y'.toNatClampNeg = 3 * a.toInt.toNat + y.toInt.toNat := by rw [zNat]; omega
      have hv : vp_in y' 120 := zvin (by omega) (by omega)
      have hq := hw (3 * a.toInt.toNat + y.toInt.toNat) (by omega)
      rw [s2, s4, hyn, c2]
      generalize hfr : τ 23 (3 * a.toInt.toNat + y.toInt.toNat) = fr at *
      generalize hto : τ 24 (3 * a.toInt.toNat + y.toInt.toNat) = to at *
      dsimp only [zlet, zseq]
      rw [zgreater, zmx_lt]
      obtain ⟨lo, hlo⟩ : ∃ lo, lo = zmx (τ 13 2) fr := ⟨_, rfl⟩
      have hlo0 : (τ 13 2).toInt ≤ lo.toInt := by rw [hlo, zmx_t]; split <;> omega
      have hl0 : (if lo < 0 then 0 else lo) = lo := if_neg (by rw [zlt, zt0]; omega)
      rw [← hlo]
      have fA : f_P_fillEmpty 3 σ lo to 1 = l_P_fillEmpty_10 3 to 1 ((to.toInt - lo.toInt).toNat + 2) σ 0 lo := by
        unfold f_P_fillEmpty
        dsimp only [zlet]
        rw [hl0]
      have fB : k_P_fillEmpty 3 σ lo to 1 = kl_P_fillEmpty_10 3 to 1 ((to.toInt - lo.toInt).toNat + 2) σ 0 lo := by
        unfold k_P_fillEmpty
        rw [hl0]
      obtain ⟨j1, j2, j3, j4, j5⟩ := l_fill3 a z1 z2 y' to (by omega) (by omega) (by omega) ((to.toInt - lo.toInt).toNat + 2) ((to.toInt - lo.toInt).toNat + 2) σ τ 0 lo (fun j hj => ⟨hE j hj, (hM j hj).1⟩) (by rw [hyn]; exact hto) (by omega) (by omega) (by omega)
      rw [fA]
      generalize hS : l_P_fillEmpty_10 3 to 1 ((to.toInt - lo.toInt).toNat + 2) σ 0 lo = S at *
      generalize hT : l_M_arrives_123 a z1 z2 y' ((to.toInt - lo.toInt).toNat + 2) τ lo = T at *
      have T13 : T 13 = τ 13 := j5 13 (by decide)
      have hi : (y + 1).toInt = y.toInt + 1 := zinc' (by omega)
      have hi' : (y' + 1).toInt = y'.toInt + 1 := zinc' (by omega)
      obtain ⟨i1, i2, i3, i4, i5, i6⟩ := ih m'' S.2 T (y + 1) (y' + 1) (fun j hj => (j3 j hj).1) (by
        rw [T13]
        intro j hj
        obtain ⟨p1, p2⟩ := hM j hj
        rcases (j3 j hj).2 with p3 | ⟨p3, p4, p5⟩
        · rw [p3]; exact ⟨p1, p2⟩
        · rw [p3]; exact ⟨Or.inr rfl, fun _ => by omega⟩) (by rw [j4 12 (by decide), j5 23 (by decide), j5 24 (by decide)]; exact hB) (by rw [T13, j5 23 (by decide), j5 24 (by decide)]; exact hw) (by rw [T13]; exact hh) (by rw [j4 2 (by decide), T13]; exact c2) (by rw [T13]; exact h2) (by rw [j5 22 (by decide)]; exact hx) (by omega) (by omega) (by omega) (by omega)
      rw [T13] at i4
      refine ⟨fun _ => ⟨s1, fun r hr => ?_⟩, ⟨hva, fun _ => ⟨hv, fun r hr => ?_⟩⟩, i3, i4, fun i q => by rw [i5 i q, j4 i q], fun i q => by rw [i6 i q, j5 i q]⟩
      · rw [hr]
        refine ⟨s3, fun r hr => ?_⟩
        rw [hr, zmx_lt, ← hlo]
        refine ⟨by rw [fB]; exact j1, fun p u hu => ?_⟩
        rw [fA] at hu
        have e : u = S.2 := by rw [← hu]
        rw [e]
        exact i1
      · rw [hr, hT]
        exact ⟨j2, fun q hq => by rw [hq]; exact i2⟩
theorem zmark {k : Nat} {σ τ : zSt} (a z1 z2 : Int32) (h : zRel σ τ) (b : zBnd k τ) (ha0 : 0 ≤ a.toInt) (ha1 : a.toInt < 40) : k_S_markBlocks σ a ∧ kl_M_arrives_92 a z1 z2 (((((3 * a) + (τ 22 a.toNatClampNeg))).toInt - ((3 * a)).toInt).toNat + 2) τ (3 * a) ∧ zAdv k σ τ (f_S_markBlocks σ a) (l_M_arrives_92 a z1 z2 (((((3 * a) + (τ 22 a.toNatClampNeg))).toInt - ((3 * a)).toInt).toNat + 2) τ (3 * a)) ∧ (∀ i, i ≠ 4 → f_S_markBlocks σ a i = σ i) ∧ (∀ i, i ≠ 15 → l_M_arrives_92 a z1 z2 (((((3 * a) + (τ 22 a.toNatClampNeg))).toInt - ((3 * a)).toInt).toNat + 2) τ (3 * a) i = τ i) := by
  have h' := h
  obtain ⟨hR, rM, -, -, -, -, -, -, -, hC, hB⟩ := h'
  have b' := b
  obtain ⟨⟨g1, g2, g3, g4, g5, g6, g7, g8, g9, g10, g11, g12⟩, -, bM, -, -, -, w4, w5⟩ := b'
  have hq := w4 a.toInt.toNat (by omega)
  have han : a.toNatClampNeg = a.toInt.toNat := rfl
  obtain ⟨s1, s2⟩ := W_cell11 (σ := σ) (a := a) (i := 2) ha0 ha1 (by decide) (by decide)
  have zz2 : (2 : Int32).toInt.toNat = 2 := rfl
  rw [zz2, hC a.toInt.toNat (by omega)] at s2
  rw [han]
  generalize hx : τ 22 a.toInt.toNat = x at *
  have hx3 : (if x < 3 then x else 3) = x := by
    by_cases q : x < 3
    · rw [if_pos q]
    · rw [if_neg q, zeq, zt3]
      rw [zlt, zt3] at q; omega
  have hi := zidx3 (a := a) (x := x) ha0 (by omega) (by omega) (by omega)
  obtain ⟨j1, j2, j3, j4, j5, j6⟩ := l_mark a x z1 z2 ha0 ha1 (by omega) (by omega) ((x.toInt - (0 : Int32).toInt).toNat + 2) ((((3 * a + x)).toInt - (3 * a).toInt).toNat + 2) σ τ 0 (3 * a) rM bM hB w5 (by omega) hR.1.1 g1 hx (by rw [zt0]; omega) (by rw [hi.1, zt0]; omega) (by omega) (by rw [hi.1, hi.2, zt0]; omega)
  have fS : f_S_markBlocks σ a = l_S_markBlocks_14 a x ((x.toInt - (0 : Int32).toInt).toNat + 2) σ 0 := by
    unfold f_S_markBlocks
    dsimp only [zlet]
    rw [s2, hx3]
  rw [fS]
  have T13 := j6 13 (by decide)
  refine ⟨?_, j2, ⟨zRel_snd h ?_ j3 (fun i p1 p2 p3 p4 => j5 i p3) (fun i p1 p2 p3 => j6 i p3) (fun j p => by rw [T13]), zBnd_same b ?_ ?_ (by rw [T13]) (fun i p1 p2 p3 => j6 i p3) (fun j p => by rw [T13]), fun i p1 p2 p3 => j5 i p2, fun i p1 p2 => j6 i p2, by rw [T13], by rw [T13]⟩, j5, j6⟩
  · unfold k_S_markBlocks
    refine ⟨s1, fun r hr => ?_⟩
    rw [hr, s2, hx3]
    exact j1
  · rw [j5 2 (by decide), j5 5 (by decide), T13]; exact hR
  · rw [T13]; exact ⟨g1, g2, g3, g4, g5, g6, g7, g8, g9, g10, g11, g12⟩
  · rw [T13]; exact j4
