/-! what holds of every state -/
def zNum (k : Nat) (s t r : Nat → Int32) : Prop :=
  (0 ≤ (s 2).toInt ∧ (s 2).toInt ≤ (r 2).toInt ∧ (s 2).toInt ≤ (s 3).toInt ∧ (s 3).toInt ≤ (s 4).toInt ∧ (s 4).toInt ≤ (s 5).toInt ∧ (s 5).toInt ≤ 300 ∧ (r 2).toInt ≤ (s 4).toInt ∧ 32 ≤ (s 6).toInt ∧ (s 6).toInt ≤ (r 3).toInt + 32 ∧ (s 6).toInt ≤ (s 2).toInt + 32 ∧ (s 4).toInt ≤ (s 2).toInt + 33 ∧ 0 ≤ (r 3).toInt ∧ (r 3).toInt ≤ (r 2).toInt ∧ (r 2).toInt ≤ (r 3).toInt + 32)
  ∧ (4 ≤ (s 7).toInt ∧ (s 7).toInt ≤ 256 ∧ 8 ≤ (s 8).toInt ∧ (s 8).toInt ≤ 256 ∧ (s 9).toInt = 256 ∧ 0 ≤ (s 10).toInt ∧ (s 10).toInt ≤ k ∧ 0 ≤ (s 14).toInt ∧ (s 14).toInt ≤ (s 13).toInt ∧ (s 13).toInt ≤ k ∧ 0 ≤ (r 1).toInt ∧ (r 1).toInt ≤ k ∧ 0 ≤ (s 12).toInt ∧ (s 12).toInt ≤ (s 4).toInt ∧ ((s 11).toInt = -1 ∨ ((s 2).toInt < (s 11).toInt ∧ (s 11).toInt ≤ (s 4).toInt)))
  ∧ (0 ≤ (t 0).toInt ∧ (t 0).toInt ≤ 100 * k ∧ k ≤ 10000000 ∧ 2 ≤ (t 1).toInt ∧ (t 1).toInt ≤ 64 ∧ (((t 2).toInt = -1 ∧ (s 3).toInt = (s 2).toInt) ∨ ((t 0).toInt < (t 2).toInt ∧ (t 2).toInt ≤ (t 0).toInt + 64)) ∧ ((t 3).toInt = -1 ∨ ((s 2).toInt < (t 3).toInt ∧ (t 3).toInt ≤ (s 4).toInt)))
def zMk (s m h : Nat → Int32) : Prop := ∀ p : Int, ¬ zA0 m p = 0 → (s 2).toInt < p ∧ p < (s 4).toInt ∧ ¬ zA0 h p = 0
def zHd (s r h : Nat → Int32) : Prop := (∀ p : Int, 0 ≤ p → p < (r 2).toInt → ¬ zA0 h p = 0) ∧ zA0 h (r 2).toInt = 0 ∧ (∀ p : Int, ¬ zA0 h p = 0 → p < (s 4).toInt ∧ p < (r 3).toInt + 32)
def zSg (s : Nat → Int32) (n : Int32) (c : Nat → Int32) : Prop := 0 ≤ n.toInt ∧ n.toInt ≤ 40 ∧ ∀ i : Nat, (i : Int) < n.toInt → 0 ≤ (c (2 * i)).toInt ∧ (c (2 * i)).toInt < (c (2 * i + 1)).toInt ∧ (c (2 * i + 1)).toInt ≤ (c (2 * i)).toInt + 4 ∧ (c (2 * i + 1)).toInt ≤ (s 4).toInt
def zRw (r m h c : Nat → Int32) (i : Nat) : Prop := (0 ≤ (c (9 * i + 0)).toInt ∧ (c (9 * i + 0)).toInt ≤ (r 2).toInt ∧ 0 ≤ (c (9 * i + 1)).toInt ∧ (c (9 * i + 1)).toInt ≤ 32 ∧ (c (9 * i + 0)).toInt + (c (9 * i + 1)).toInt ≤ (r 3).toInt + 32 ∧ 0 ≤ (c (9 * i + 2)).toInt ∧ (c (9 * i + 2)).toInt ≤ 3) ∧ zA0 m (c (9 * i + 0)).toInt = 0 ∧ (∀ k : Nat, (k : Int) < (c (9 * i + 2)).toInt → (c (9 * i + 0)).toInt < (c (9 * i + (3 + 2 * k))).toInt ∧ (c (9 * i + (3 + 2 * k))).toInt < (c (9 * i + (4 + 2 * k))).toInt ∧ (c (9 * i + (4 + 2 * k))).toInt ≤ 600 ∧ (∀ p : Int, (c (9 * i + (3 + 2 * k))).toInt ≤ p → p < (c (9 * i + (4 + 2 * k))).toInt → ¬ zA0 h p = 0))
def zPr (c : Nat → Int32) (i j : Nat) : Prop := ∀ k : Nat, (k : Int) < (c (9 * i + 2)).toInt → ¬ ((c (9 * i + (3 + 2 * k))).toInt ≤ (c (9 * j + 0)).toInt ∧ (c (9 * j + 0)).toInt < (c (9 * i + (4 + 2 * k))).toInt)
def zAk (r m h : Nat → Int32) (n : Int32) (c : Nat → Int32) : Prop := 0 ≤ n.toInt ∧ n.toInt ≤ 40 ∧ (∀ i : Nat, (i : Int) < n.toInt → zRw r m h c i) ∧ (∀ i j : Nat, (i : Int) < n.toInt → (j : Int) < n.toInt → zPr c i j)
def zI (k : Nat) (σ : zSt) : Prop := zNum k (σ 2) (σ 5) (σ 6) ∧ zMk (σ 2) (σ 4) (σ 8) ∧ zHd (σ 2) (σ 6) (σ 8) ∧ zSg (σ 2) (σ 9 2) (σ 10) ∧ zAk (σ 6) (σ 4) (σ 8) (σ 11 2) (σ 12)
def zVl (f : Int) (σ : zSt) : Prop := ∀ p : Nat, (p : Int) < (σ 2 5).toInt → (σ 1 p).toInt = (f + p) % 256
theorem zNum_up {k k' : Nat} {s t r : Nat → Int32} (h : zNum k s t r) (hk : k ≤ k') (hk' : k' ≤ 10000000) : zNum k' s t r := by
  obtain ⟨h1, h2, h3⟩ := h
  refine ⟨h1, ?_, ?_⟩
  · obtain ⟨a1, a2, a3, a4, a5, a6, a7, a8, a9, a10, a11, a12, a13⟩ := h2
    exact ⟨a1, a2, a3, a4, a5, a6, by omega, a8, a9, by omega, a11, by omega, a13⟩
  · obtain ⟨a1, a2, a3, a4⟩ := h3
    exact ⟨a1, by omega, hk', a4⟩
theorem zI_up {k k' : Nat} {σ : zSt} (h : zI k σ) (hk : k ≤ k') (hk' : k' ≤ 10000000) : zI k' σ := ⟨zNum_up h.1 hk hk', h.2⟩
theorem zI_rv {k : Nat} {σ : zSt} (h : zI k σ) : zRcv σ := by
  obtain ⟨⟨h1, -, -⟩, -, ⟨-, h2, -⟩, -⟩ := h
  exact ⟨by omega, by omega, by omega, h2⟩
/-- what no step touches stays -/
theorem zI_eq {k : Nat} {σ σ' : zSt} (h : zI k σ) (e2 : σ' 2 = σ 2) (e4 : σ' 4 = σ 4) (e5 : σ' 5 = σ 5) (e6 : σ' 6 = σ 6) (e8 : σ' 8 = σ 8) (hs : zSg (σ 2) (σ' 9 2) (σ' 10)) (ha : zAk (σ 6) (σ 4) (σ 8) (σ' 11 2) (σ' 12)) : zI k σ' := by
  unfold zI
  rw [e2, e4, e5, e6, e8]
  exact ⟨h.1, h.2.1, h.2.2.1, hs, ha⟩
theorem zRw_eq {r m h c c' : Nat → Int32} {i i' : Nat} (w : zRw r m h c i) (e : ∀ j, j < 9 → c' (9 * i' + j) = c (9 * i + j)) : zRw r m h c' i' := by
  unfold zRw at w ⊢
  rw [e 0 (by decide), e 1 (by decide), e 2 (by decide)]
  refine ⟨w.1, w.2.1, fun k hk => ?_⟩
  have h3 := w.1.2.2.2.2.2.2
  rw [e (3 + 2 * k) (by omega), e (4 + 2 * k) (by omega)]
  exact w.2.2 k hk
theorem zPr_eq {c c' : Nat → Int32} {i i' j j' : Nat} (w : zPr c i j) (h3 : (c (9 * i + 2)).toInt ≤ 3) (e : ∀ x, x < 9 → c' (9 * i' + x) = c (9 * i + x)) (f : ∀ x, x < 9 → c' (9 * j' + x) = c (9 * j + x)) : zPr c' i' j' := by
  unfold zPr at w ⊢
  rw [e 2 (by decide), f 0 (by decide)]
  intro k hk
  rw [e (3 + 2 * k) (by omega), e (4 + 2 * k) (by omega)]
  exact w k hk
/-- rows that were rows before -/
theorem zAk_rows {r m h c c' : Nat → Int32} {n n' : Int32} (w : zAk r m h n c) (h0 : 0 ≤ n'.toInt) (h4 : n'.toInt ≤ 40) (e : ∀ i : Nat, (i : Int) < n'.toInt → ∃ s : Nat, (s : Int) < n.toInt ∧ ∀ j, j < 9 → c' (9 * i + j) = c (9 * s + j)) : zAk r m h n' c' := by
  obtain ⟨-, -, w3, w4⟩ := w
  refine ⟨h0, h4, fun i hi => ?_, fun i j hi hj => ?_⟩
  · obtain ⟨s, hs, es⟩ := e i hi
    exact zRw_eq (w3 s hs) es
  · obtain ⟨s, hs, es⟩ := e i hi
    obtain ⟨s', hs', es'⟩ := e j hj
    exact zPr_eq (w4 s s' hs hs') (w3 s hs).1.2.2.2.2.2.2 es es'
theorem remS {σ : zSt} {a : Int32} (h0 : 0 ≤ a.toInt) (h1 : a.toInt < (σ 9 2).toInt) (h2 : (σ 9 2).toInt ≤ 40) : k_W_remove 9 σ a ∧ (f_W_remove 9 σ a 9 2).toInt = (σ 9 2).toInt - 1 ∧ (∀ i, i ≠ 9 → i ≠ 10 → f_W_remove 9 σ a i = σ i) ∧ (∀ i j : Nat, (i : Int) < (σ 9 2).toInt - 1 → j < 2 → f_W_remove 9 σ a 10 (2 * i + j) = σ 10 (2 * (if (i : Int) < a.toInt then i else i + 1) + j)) := by
  obtain ⟨k1, k2⟩ := W_remove9 (σ := σ) (a := a) h0 h1 h2
  rw [k2]
  refine ⟨k1, ?_, fun i c1 c2 => ?_, fun i j hi hj => ?_⟩
  · rw [zshf_ne (by decide), zuf_eq, zdec1 (by omega)]
  · rw [zshf_ne (by simp [c2]), zuf_ne c1]
  · rw [zshf_at (by decide), zuf_ne (by decide)]
    by_cases q : (i : Int) < a.toInt
    · rw [if_pos q, if_neg (by omega)]
    · rw [if_neg q, if_pos (by omega)]
      congr 1
      omega
theorem remA {σ : zSt} {a : Int32} (h0 : 0 ≤ a.toInt) (h1 : a.toInt < (σ 11 2).toInt) (h2 : (σ 11 2).toInt ≤ 40) : k_W_remove 11 σ a ∧ (f_W_remove 11 σ a 11 2).toInt = (σ 11 2).toInt - 1 ∧ (∀ i, i ≠ 11 → i ≠ 12 → f_W_remove 11 σ a i = σ i) ∧ (∀ i j : Nat, (i : Int) < (σ 11 2).toInt - 1 → j < 9 → f_W_remove 11 σ a 12 (9 * i + j) = σ 12 (9 * (if (i : Int) < a.toInt then i else i + 1) + j)) := by
  obtain ⟨k1, k2⟩ := W_remove11 (σ := σ) (a := a) h0 h1 h2
  rw [k2]
  refine ⟨k1, ?_, fun i c1 c2 => ?_, fun i j hi hj => ?_⟩
  · rw [zshf_ne (by decide), zuf_eq, zdec1 (by omega)]
  · rw [zshf_ne (by simp [c2]), zuf_ne c1]
  · rw [zshf_at (by decide), zuf_ne (by decide)]
    by_cases q : (i : Int) < a.toInt
    · rw [if_pos q, if_neg (by omega)]
    · rw [if_neg q, if_pos (by omega)]
      congr 1
      omega
theorem zSg_rows {s c c' : Nat → Int32} {n n' : Int32} (w : zSg s n c) (h0 : 0 ≤ n'.toInt) (h4 : n'.toInt ≤ 40) (e : ∀ i : Nat, (i : Int) < n'.toInt → ∃ x : Nat, (x : Int) < n.toInt ∧ ∀ j, j < 2 → c' (2 * i + j) = c (2 * x + j)) : zSg s n' c' := by
  obtain ⟨-, -, w3⟩ := w
  refine ⟨h0, h4, fun i hi => ?_⟩
  obtain ⟨x, hx, ex⟩ := e i hi
  have e0 := ex 0 (by decide)
  rw [Nat.add_zero, Nat.add_zero] at e0
  rw [e0, ex 1 (by decide)]
  exact w3 x hx
theorem zI_remS {k : Nat} {σ : zSt} (h : zI k σ) {a : Int32} (h0 : 0 ≤ a.toInt) (h1 : a.toInt < (σ 9 2).toInt) : zI k (f_W_remove 9 σ a) := by
  obtain ⟨k1, k2, k3, k4⟩ := remS h0 h1 h.2.2.2.1.2.1
  refine zI_eq h (k3 2 (by decide) (by decide)) (k3 4 (by decide) (by decide)) (k3 5 (by decide) (by decide)) (k3 6 (by decide) (by decide)) (k3 8 (by decide) (by decide)) ?_ ?_
  · have h4 := h.2.2.2.1.2.1
    refine zSg_rows h.2.2.2.1 (by omega) (by omega) (fun i hi => ?_)
    exact ⟨_, by by_cases q : (i : Int) < a.toInt <;> simp only [q, if_true, if_false] <;> omega, fun j hj => k4 i j (by omega) hj⟩
  · rw [k3 11 (by decide) (by decide), k3 12 (by decide) (by decide)]
    exact h.2.2.2.2
theorem zI_remA {k : Nat} {σ : zSt} (h : zI k σ) {a : Int32} (h0 : 0 ≤ a.toInt) (h1 : a.toInt < (σ 11 2).toInt) : zI k (f_W_remove 11 σ a) := by
  obtain ⟨k1, k2, k3, k4⟩ := remA h0 h1 h.2.2.2.2.2.1
  refine zI_eq h (k3 2 (by decide) (by decide)) (k3 4 (by decide) (by decide)) (k3 5 (by decide) (by decide)) (k3 6 (by decide) (by decide)) (k3 8 (by decide) (by decide)) ?_ ?_
  · rw [k3 9 (by decide) (by decide), k3 10 (by decide) (by decide)]
    exact h.2.2.2.1
  · have h4 := h.2.2.2.2.2.1
    refine zAk_rows h.2.2.2.2 (by omega) (by omega) (fun i hi => ?_)
    exact ⟨_, by by_cases q : (i : Int) < a.toInt <;> simp only [q, if_true, if_false] <;> omega, fun j hj => k4 i j (by omega) hj⟩
/-- a new acknowledgment -/
theorem zI_ack {k : Nat} {σ : zSt} (h : zI k σ) : k_R_makeAck σ ∧ zI k (f_R_makeAck σ) ∧ (∀ i, i ≠ 11 → i ≠ 12 → f_R_makeAck σ i = σ i) ∧ (f_R_makeAck σ 11 2).toInt = (if (σ 11 2).toInt = 40 then 40 else (σ 11 2).toInt + 1) ∧ f_R_makeAck σ 12 (9 * ((f_R_makeAck σ 11 2).toInt - 1).toNat) = σ 6 2 := by
  obtain ⟨k1, n, d, hn, hnd, hd, k2, k3, k4, n1, n2, n3, n4, n5⟩ := makeAck (zI_rv h) h.2.2.2.2.1 h.2.2.2.2.2.1
  have h4 := h.2.2.2.2.2.1
  obtain ⟨⟨hp, -, -⟩, hm, hh, -, hA⟩ := id h
  have hd1 : d ≤ 1 := by rw [hd]; by_cases q : (σ 11 2).toInt = 40 <;> simp only [q, if_true, if_false] <;> omega
  refine ⟨k1, ?_, k3, ?_, ?_⟩
  · refine zI_eq h (k3 2 (by decide) (by decide)) (k3 4 (by decide) (by decide)) (k3 5 (by decide) (by decide)) (k3 6 (by decide) (by decide)) (k3 8 (by decide) (by decide)) ?_ ?_
    · rw [k3 9 (by decide) (by decide), k3 10 (by decide) (by decide)]
      exact h.2.2.2.1
    · generalize f_R_makeAck σ = u at *
      have hold : ∀ i : Nat, i < n → ∃ s : Nat, (s : Int) < (σ 11 2).toInt ∧ ∀ j, j < 9 → u 12 (9 * i + j) = σ 12 (9 * s + j) := fun i hi => ⟨i + d, by omega, fun j hj => k4 i j hi hj⟩
      have hnew : zRw (σ 6) (σ 4) (σ 8) (u 12) n := by
        unfold zRw
        rw [Nat.add_zero, n1]
        refine ⟨⟨by omega, by omega, by omega, by omega, by omega, n3, n4⟩, ?_, fun x hx => ?_⟩
        · by_cases q : zA0 (σ 4) (σ 6 2).toInt = 0
          · exact q
          · exact absurd hh.2.1 (hm _ q).2.2
        · exact n5 x hx
      refine ⟨by omega, by omega, fun i hi => ?_, fun i j hi hj => ?_⟩
      · by_cases q : i < n
        · obtain ⟨s, hs, es⟩ := hold i q
          exact zRw_eq (hA.2.2.1 s hs) es
        · rw [show i = n by omega]; exact hnew
      · by_cases q : i < n
        · obtain ⟨s, hs, es⟩ := hold i q
          by_cases q' : j < n
          · obtain ⟨s', hs', es'⟩ := hold j q'
            exact zPr_eq (hA.2.2.2 s s' hs hs') (hA.2.2.1 s hs).1.2.2.2.2.2.2 es es'
          · rw [show j = n by omega]
            intro x hx w
            rw [Nat.add_zero, n1] at w
            obtain ⟨-, -, b1⟩ := zRw_eq (hA.2.2.1 s hs) es
            exact (b1 x hx).2.2.2 _ w.1 w.2 hh.2.1
        · rw [show i = n by omega]
          intro x hx w
          have b1 := (n5 x hx).1
          have b2 : (u 12 (9 * j + 0)).toInt ≤ (σ 6 2).toInt := by
            by_cases q' : j < n
            · obtain ⟨s', hs', es'⟩ := hold j q'
              exact (zRw_eq (hA.2.2.1 s' hs') es').1.2.1
            · rw [show j = n by omega]
              exact hnew.1.2.1
          omega
  · rw [k2]
    by_cases q : (σ 11 2).toInt = 40
    · rw [if_pos q] at hd ⊢; omega
    · rw [if_neg q] at hd ⊢; omega
  · rw [k2, show ((n : Int) + 1 - 1).toNat = n by omega]
    exact n1
