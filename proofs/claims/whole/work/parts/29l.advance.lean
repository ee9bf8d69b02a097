/-! the rest of an advance -/
def zadvC (u1 : zSt) (a1 : Int32) : zSt := zlet (f_P_empty 3 u1 (u1 2 2) a1) (fun u3 => (if (u3 2 11) = (-1) then zlet (f_S_growCongestion (zuf (zuf (zuf u3 2 2 a1) 2 3 (if (u3 2 3) < a1 then a1 else (u3 2 3))) 2 10 0)) (fun u17 => (if (u17 2 2) = (u17 2 3) then zlet (f_T_stop u17) (fun u22 => u22) else zlet (f_T_startAnew u17) (fun u20 => u20))) else (if a1 < (u3 2 11) then (if a1 = (if (u3 2 3) < a1 then a1 else (u3 2 3)) then zlet (f_T_stop (zuf (zuf (zuf u3 2 2 a1) 2 3 (if (u3 2 3) < a1 then a1 else (u3 2 3))) 2 10 0)) (fun u10 => u10) else zlet (f_T_startAnew (zuf (zuf (zuf u3 2 2 a1) 2 3 (if (u3 2 3) < a1 then a1 else (u3 2 3))) 2 10 0)) (fun u8 => u8)) else (if a1 = (if (u3 2 3) < a1 then a1 else (u3 2 3)) then zlet (f_T_stop (zuf (zuf (zuf (zuf (zuf u3 2 2 a1) 2 3 (if (u3 2 3) < a1 then a1 else (u3 2 3))) 2 10 0) 2 11 (-1)) 2 7 (u3 2 8))) (fun u15 => u15) else zlet (f_T_startAnew (zuf (zuf (zuf (zuf (zuf u3 2 2 a1) 2 3 (if (u3 2 3) < a1 then a1 else (u3 2 3))) 2 10 0) 2 11 (-1)) 2 7 (u3 2 8))) (fun u13 => u13)))))
def zadvM (σ : zSt) (a1 : Int32) : zSt := zlet (f_M_greater (zuf σ 13 2 a1) (σ 13 3) a1) (fun r2 => zlet (l_M_advances_56 (((((zuf (zuf σ 13 2 a1) 13 3 r2) 13 2)).toInt - (0 : Int32).toInt).toNat + 2) (zuf (zuf σ 13 2 a1) 13 3 r2) 0) (fun r6 => (if (r6 13 10) = 0 then (if (r6 13 8) ≤ (r6 13 7) then zlet (f_M_greater (zuf r6 13 13 0) (16 / (r6 13 7)) 1) (fun r13 => zlet (f_M_lesser (zuf r6 13 13 0) ((r6 13 7) + r13) 256) (fun r15 => (if (r6 13 2) = (r6 13 3) then (zuf (zuf (zuf r6 13 13 0) 13 7 r15) 13 15 (-1)) else (zuf (zuf (zuf r6 13 13 0) 13 7 r15) 13 15 ((r6 13 1) + (r6 13 14)))))) else zlet (f_M_lesser (zuf r6 13 13 0) ((r6 13 7) + 4) 256) (fun r18 => (if (r6 13 2) = (r6 13 3) then (zuf (zuf (zuf r6 13 13 0) 13 7 r18) 13 15 (-1)) else (zuf (zuf (zuf r6 13 13 0) 13 7 r18) 13 15 ((r6 13 1) + (r6 13 14)))))) else (if (r6 13 2) < (r6 13 11) then (if (r6 13 2) = (r6 13 3) then (zuf (zuf r6 13 13 0) 13 15 (-1)) else (zuf (zuf r6 13 13 0) 13 15 ((r6 13 1) + (r6 13 14)))) else (if (r6 13 2) = (r6 13 3) then (zuf (zuf (zuf (zuf r6 13 13 0) 13 10 0) 13 7 (r6 13 8)) 13 15 (-1)) else (zuf (zuf (zuf (zuf r6 13 13 0) 13 10 0) 13 7 (r6 13 8)) 13 15 ((r6 13 1) + (r6 13 14))))))))
def zgc (t c : Int32) : Int32 := if t ≤ c then zmn (c + zmx (16 / c) 1) 256 else zmn (c + 4) 256
theorem zgc_in {t c : Int32} (h1 : 1 ≤ c.toInt) (h2 : c.toInt ≤ 300) : 1 ≤ (zgc t c).toInt ∧ (zgc t c).toInt ≤ 300 := by
  have z256 : (256 : Int32).toInt = 256 := rfl
  unfold zgc
  by_cases q : t ≤ c
  · rw [if_pos q]
    have hd : (16 / c).toInt = 16 / c.toInt := by rw [zdiv (by decide) (by omega), zt16]
    have hd0 : 0 ≤ (16 : Int) / c.toInt := Int.ediv_nonneg (by decide) (by omega)
    have hd1 : (16 : Int) / c.toInt ≤ 16 := Int.ediv_le_self _ (by decide)
    have hx : 1 ≤ (zmx (16 / c) 1).toInt ∧ (zmx (16 / c) 1).toInt ≤ 16 := by
      rw [zmx_t, hd, zt1]
      split <;> omega
    have ha : (c + zmx (16 / c) 1).toInt = c.toInt + (zmx (16 / c) 1).toInt := zadd (by omega) (by omega)
    rw [zmn_t, z256, ha]
    split <;> omega
  · rw [if_neg q]
    have ha : (c + 4).toInt = c.toInt + 4 := by rw [zadd (by rw [zt4]; omega) (by rw [zt4]; omega), zt4]
    rw [zmn_t, z256, ha]
    split <;> omega
theorem zgrow (σ : zSt) (h1 : 1 ≤ (σ 2 7).toInt) : k_S_growCongestion σ ∧ f_S_growCongestion σ = zuf σ 2 7 (zgc (σ 2 8) (σ 2 7)) := by
  have q : ¬ σ 2 7 ≤ 0 := by rw [zle, zt0]; omega
  have q0 : ¬ σ 2 7 = 0 := by rw [zeq, zt0]; omega
  unfold k_S_growCongestion f_S_growCongestion zgc
  refine ⟨fun _ _ => q0, ?_⟩
  simp only [zmx_lt, zmn_lt, if_neg q]
  rw [zmx_comm 1]
  split <;> rfl
theorem zadv_fin {k : Nat} {σ τ S T : zSt} (h : zRel σ τ) (b : zBnd k τ) (r N c' x10 x11 tm : Int32) (hr : (τ 13 2).toInt ≤ r.toInt) (hrh : r.toInt ≤ (τ 13 4).toInt) (hN : N = zmx (τ 13 3) r) (s2 : S 2 2 = r ∧ S 2 3 = N ∧ S 2 4 = σ 2 4 ∧ S 2 5 = σ 2 5 ∧ S 2 6 = σ 2 6 ∧ S 2 7 = c' ∧ S 2 8 = σ 2 8 ∧ S 2 9 = σ 2 9 ∧ S 2 10 = 0 ∧ S 2 11 = x11 ∧ S 2 12 = σ 2 12 ∧ S 2 13 = σ 2 13 ∧ S 2 14 = σ 2 14) (s5 : ∀ j, S 5 j = if j = 2 then tm else σ 5 j) (s4 : ∀ j : Nat, S 4 j = if (τ 13 2).toInt ≤ (j : Int) ∧ (j : Int) < r.toInt then 0 else σ 4 j) (sF : ∀ i, i ≠ 2 → i ≠ 4 → i ≠ 5 → S i = σ i) (t13 : T 13 2 = r ∧ T 13 3 = N ∧ T 13 13 = 0 ∧ T 13 10 = x10 ∧ T 13 7 = c' ∧ T 13 15 = tm) (tO : ∀ j, j ≠ 2 → j ≠ 3 → j ≠ 13 → j ≠ 10 → j ≠ 7 → j ≠ 15 → T 13 j = τ 13 j) (t15 : ∀ j : Nat, T 15 j = if (j : Int) < r.toInt then 0 else τ 15 j) (tF : ∀ i, i ≠ 13 → i ≠ 15 → T i = τ i) (hx : x11 = if x10 = 0 then -1 else τ 13 11) (hc : 1 ≤ c'.toInt ∧ c'.toInt ≤ 300) : zAdv k σ τ S T := by
  have hR := h.1
  obtain ⟨⟨c2, c3, c4, c5, c6, c7, c8, c9, c10, c11, c12, c13, c14⟩, d0, d1, d2, d3, d4, d5, d6, d7⟩ := hR
  have rM := h.2.1
  have b' := b
  obtain ⟨⟨g1, g2, g3, g4, g5, g6, g7, g8, g9, g10, g11, g12⟩, -, bM, -⟩ := b'
  obtain ⟨e2, e3, e4, e5, e6, e7, e8, e9, e10, e11, e12, e13, e14⟩ := s2
  obtain ⟨f2, f3, f13, f10, f7, f15⟩ := t13
  have hNt : r.toInt ≤ N.toInt ∧ N.toInt ≤ (τ 13 4).toInt := by rw [hN, zmx_t]; split <;> omega
  have t4 : T 13 4 = τ 13 4 := tO 4 (by decide) (by decide) (by decide) (by decide) (by decide) (by decide)
  have e23 : ∀ j, 23 ≤ j → T 13 j = τ 13 j := fun j p => tO j (by omega) (by omega) (by omega) (by omega) (by omega) (by omega)
  refine ⟨zRel_snd h ?_ ?_ (fun i p1 p2 p3 p4 => sF i p2 p3 p4) (fun i p1 p2 p3 => tF i (by omega) p3) e23, zBnd_same b ?_ ?_ t4 (fun i p1 p2 p3 => tF i (by omega) p3) e23, sF, tF, tO 0 (by decide) (by decide) (by decide) (by decide) (by decide) (by decide), e23 38 (by decide)⟩
  · unfold zRS
    rw [e2, e3, e4, e5, e6, e7, e8, e9, e10, e11, e12, e13, e14, s5, s5, s5, s5, s5, s5, s5, s5, f2, f3, f13, f10, f7, f15, t4, tO 1 (by decide) (by decide) (by decide) (by decide) (by decide) (by decide), tO 5 (by decide) (by decide) (by decide) (by decide) (by decide) (by decide), tO 6 (by decide) (by decide) (by decide) (by decide) (by decide) (by decide), tO 8 (by decide) (by decide) (by decide) (by decide) (by decide) (by decide), tO 9 (by decide) (by decide) (by decide) (by decide) (by decide) (by decide), tO 11 (by decide) (by decide) (by decide) (by decide) (by decide) (by decide), tO 12 (by decide) (by decide) (by decide) (by decide) (by decide) (by decide), tO 14 (by decide) (by decide) (by decide) (by decide) (by decide) (by decide), tO 16 (by decide) (by decide) (by decide) (by decide) (by decide) (by decide), tO 17 (by decide) (by decide) (by decide) (by decide) (by decide) (by decide), tO 18 (by decide) (by decide) (by decide) (by decide) (by decide) (by decide), tO 19 (by decide) (by decide) (by decide) (by decide) (by decide) (by decide), tO 20 (by decide) (by decide) (by decide) (by decide) (by decide) (by decide), tO 21 (by decide) (by decide) (by decide) (by decide) (by decide) (by decide), tO 22 (by decide) (by decide) (by decide) (by decide) (by decide) (by decide)]
    exact ⟨⟨rfl, rfl, c4, c5, c6, rfl, c8, c9, rfl, hx, c12, c13, c14⟩, d0, d1, rfl, d3, d4, d5, d6, d7⟩
  · intro j hj
    rw [s4, t15]
    by_cases q : (j : Int) < r.toInt
    · rw [if_pos q]
      by_cases q2 : (τ 13 2).toInt ≤ (j : Int)
      · rw [if_pos ⟨q2, q⟩]
      · rw [if_neg (fun w => q2 w.1), rM j hj]
        exact Classical.not_not.mp (fun w => q2 ((bM j hj).2 w).1)
    · rw [if_neg q, if_neg (fun w => q w.2)]
      exact rM j hj
  · unfold zBS
    rw [f2, f3, t4, f7, tO 1 (by decide) (by decide) (by decide) (by decide) (by decide) (by decide), tO 5 (by decide) (by decide) (by decide) (by decide) (by decide) (by decide), tO 8 (by decide) (by decide) (by decide) (by decide) (by decide) (by decide), tO 11 (by decide) (by decide) (by decide) (by decide) (by decide) (by decide)]
    exact ⟨by omega, hNt.1, hNt.2, g4, g5, hc.1, hc.2, g8, g9, g10, g11, g12⟩
  · intro j hj
    rw [t15, f2, t4]
    by_cases q : (j : Int) < r.toInt
    · rw [if_pos q]
      exact ⟨Or.inl rfl, fun w => absurd rfl w⟩
    · rw [if_neg q]
      obtain ⟨p1, p2⟩ := bM j hj
      exact ⟨p1, fun w => by have := p2 w; omega⟩
