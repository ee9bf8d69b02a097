/-! filling the empty places of an array -/
def zfil (σ : zSt) (i : Nat) (a b : Int) (v : Int32) : zSt := fun u j => if u = i ∧ a ≤ (j : Int) ∧ (j : Int) < b ∧ j < 600 ∧ σ i j = 0 then v else σ u j
theorem zfil_ne {σ : zSt} {i : Nat} {a b : Int} {v : Int32} {u : Nat} (h : u ≠ i) : zfil σ i a b v u = σ u := by
  funext j
  unfold zfil
  exact if_neg (fun q => h q.1)
theorem zfil_nil {σ : zSt} {i : Nat} {a b : Int} {v : Int32} (h : b ≤ a ∨ 600 ≤ a) : zfil σ i a b v = σ := by
  funext u j
  unfold zfil
  exact if_neg (fun q => by
    have h1 := q.2.1
    have h2 := q.2.2.1
    have h3 := q.2.2.2.1
    omega)
theorem zfil_step {σ : zSt} {i : Nat} {x v : Int32} {y : Int} (hx : 0 ≤ x.toInt) (h1 : x.toInt < y) (h2 : x.toInt < 600) (h0 : σ i x.toNatClampNeg = 0) : zfil (zuf σ i x.toNatClampNeg v) i (x.toInt + 1) y v = zfil σ i x.toInt y v := by
  funext u j
  have hn : (x.toNatClampNeg : Int) = x.toInt := by rw [zNat]; omega
  unfold zfil
  by_cases hu : u = i
  · subst hu
    by_cases hj : j = x.toNatClampNeg
    · subst hj
      rw [if_neg (fun q => absurd q.2.1 (by omega)), zuf_eq, if_pos ⟨rfl, by omega, by omega, by omega, h0⟩]
    · rw [zuf_nj hj]
      by_cases q : x.toInt + 1 ≤ (j : Int) ∧ (j : Int) < y ∧ j < 600 ∧ σ u j = 0
      · rw [if_pos ⟨rfl, q⟩, if_pos ⟨rfl, by omega, q.2⟩]
      · rw [if_neg (fun w => q w.2), if_neg (fun w => q ⟨by have := w.2.1; omega, w.2.2⟩)]
  · rw [if_neg (fun w => hu w.1), if_neg (fun w => hu w.1), zuf_ne hu]
theorem zfil_skip {σ : zSt} {i : Nat} {x v : Int32} {y : Int} (hx : 0 ≤ x.toInt) (h0 : ¬ σ i x.toNatClampNeg = 0) : zfil σ i (x.toInt + 1) y v = zfil σ i x.toInt y v := by
  funext u j
  have hn : (x.toNatClampNeg : Int) = x.toInt := by rw [zNat]; omega
  unfold zfil
  by_cases q : u = i ∧ x.toInt + 1 ≤ (j : Int) ∧ (j : Int) < y ∧ j < 600 ∧ σ i j = 0
  · rw [if_pos q, if_pos ⟨q.1, by have := q.2.1; omega, q.2.2⟩]
  · rw [if_neg q, if_neg (fun w => q ⟨w.1, by
      have h1 := w.2.1
      have h2 : j ≠ x.toNatClampNeg := fun e => h0 (by rw [← e]; exact w.2.2.2.2)
      omega, w.2.2⟩)]
theorem l_fill (c : Nat) (y v : Int32) (hy : y.toInt ≤ 600) : ∀ (m : Nat) (σ : zSt) (n x : Int32), 0 ≤ n.toInt → n.toInt ≤ x.toInt → (y.toInt - x.toInt).toNat < m → kl_P_fillEmpty_10 c y v m σ n x ∧ (l_P_fillEmpty_10 c y v m σ n x).2 = zfil σ (c + 1) x.toInt y.toInt v ∧ n.toInt ≤ (l_P_fillEmpty_10 c y v m σ n x).1.toInt ∧ (x.toInt ≤ y.toInt → (l_P_fillEmpty_10 c y v m σ n x).1.toInt ≤ n.toInt + (y.toInt - x.toInt)) ∧ ((y.toInt ≤ x.toInt ∨ ∀ p : Nat, x.toInt ≤ (p : Int) → (p : Int) < y.toInt → ¬ σ (c + 1) p = 0) → (l_P_fillEmpty_10 c y v m σ n x).1 = n) := by
  intro m
  induction m with
  | zero => intro σ n x _ _ h; omega
  | succ m ih =>
    intro σ n x hn0 hnx h
    unfold kl_P_fillEmpty_10 l_P_fillEmpty_10
    by_cases h1 : y ≤ x
    · rw [if_pos h1]
      have h1' := zle.mp h1
      exact ⟨fun q => absurd h1 q, (zfil_nil (Or.inl h1')).symm, Int.le_refl _, fun q => by show n.toInt ≤ _; omega, fun _ => rfl⟩
    · rw [if_neg h1]
      have h1' : x.toInt < y.toInt := by rw [zle] at h1; omega
      have hi : (x + 1).toInt = x.toInt + 1 := zinc' (by omega)
      have h6 : ¬ 600 ≤ x := by rw [zle, zt600]; omega
      have hN : (x.toNatClampNeg : Int) = x.toInt := by rw [zNat]; omega
      rw [if_neg h6]
      by_cases h0 : σ (c + 1) x.toNatClampNeg = 0
      · rw [if_pos h0]
        have hn1 : (n + 1).toInt = n.toInt + 1 := zinc' (by omega)
        obtain ⟨k1, k2, k3, k4, k5⟩ := ih (zuf σ (c + 1) x.toNatClampNeg v) (n + 1) (x + 1) (by omega) (by omega) (by omega)
        refine ⟨fun _ _ => ⟨zvin (by omega) (by show _ < ((600 : Nat) : Int); omega), fun _ => ⟨zvin (by omega) (by show _ < ((600 : Nat) : Int); omega), k1⟩, fun q => absurd h0 q⟩, ?_, by omega, fun _ => ?_, fun q => ?_⟩
        · rw [k2, hi]; exact zfil_step (by omega) h1' (by omega) h0
        · have := k4 (by omega); omega
        · rcases q with q | q
          · omega
          · exact absurd h0 (q x.toNatClampNeg (by omega) (by omega))
      · rw [if_neg h0]
        obtain ⟨k1, k2, k3, k4, k5⟩ := ih σ n (x + 1) hn0 (by omega) (by omega)
        refine ⟨fun _ _ => ⟨zvin (by omega) (by show _ < ((600 : Nat) : Int); omega), fun q => absurd q h0, fun _ => k1⟩, ?_, k3, fun _ => ?_, fun q => k5 ?_⟩
        · rw [k2, hi]; exact zfil_skip (by omega) h0
        · have := k4 (by omega); omega
        · rcases q with q | q
          · exact Or.inl (by omega)
          · exact Or.inr (fun p h1 h2 => q p (by omega) h2)
theorem zmx0 (x : Int32) : 0 ≤ (if x < 0 then 0 else x : Int32).toInt ∧ (0 ≤ x.toInt → (if x < 0 then 0 else x : Int32) = x) := by
  by_cases h : x < 0
  · rw [if_pos h]
    rw [zlt, zt0] at h
    exact ⟨by decide, fun q => by omega⟩
  · rw [if_neg h]
    rw [zlt, zt0] at h
    exact ⟨by omega, fun _ => rfl⟩
theorem fillEmpty (c : Nat) (σ : zSt) (x y v : Int32) (hx : 0 ≤ x.toInt) (hy : y.toInt ≤ 600) : k_P_fillEmpty c σ x y v ∧ (f_P_fillEmpty c σ x y v).2 = zfil σ (c + 1) x.toInt y.toInt v ∧ 0 ≤ (f_P_fillEmpty c σ x y v).1.toInt ∧ (x.toInt ≤ y.toInt → (f_P_fillEmpty c σ x y v).1.toInt ≤ y.toInt - x.toInt) ∧ ((y.toInt ≤ x.toInt ∨ ∀ p : Nat, x.toInt ≤ (p : Int) → (p : Int) < y.toInt → ¬ σ (c + 1) p = 0) → (f_P_fillEmpty c σ x y v).1 = 0) := by
  unfold k_P_fillEmpty f_P_fillEmpty
  rw [(zmx0 x).2 hx]
  dsimp only [zlet]
  obtain ⟨k1, k2, k3, k4, k5⟩ := l_fill c y v hy ((y.toInt - x.toInt).toNat + 2) σ 0 x (by decide) (by rw [zt0]; omega) (by omega)
  rw [zt0] at k3 k4
  exact ⟨k1, k2, k3, fun q => by have := k4 q; omega, k5⟩
theorem zA0_fil {σ : zSt} {i : Nat} {a b : Int} {v : Int32} (hv : ¬ v = 0) (p : Int) : ¬ zA0 (zfil σ i a b v i) p = 0 ↔ (¬ zA0 (σ i) p = 0 ∨ (a ≤ p ∧ p < b ∧ 0 ≤ p ∧ p < 600)) := by
  by_cases hp : 0 ≤ p ∧ p < 600
  · rw [zA0_in hp.1 hp.2, zA0_in hp.1 hp.2]
    have hn : ((p.toNat : Nat) : Int) = p := by omega
    unfold zfil
    by_cases q : i = i ∧ a ≤ (p.toNat : Int) ∧ (p.toNat : Int) < b ∧ p.toNat < 600 ∧ σ i p.toNat = 0
    · rw [if_pos q]
      exact ⟨fun _ => Or.inr ⟨by have := q.2.1; omega, by have := q.2.2.1; omega, hp⟩, fun _ => hv⟩
    · rw [if_neg q]
      refine ⟨Or.inl, fun h => ?_⟩
      rcases h with h | h
      · exact h
      · intro h0
        exact q ⟨rfl, by omega, by omega, by omega, h0⟩
  · rw [zA0_out (by omega), zA0_out (by omega)]
    exact ⟨fun q => absurd rfl q, fun q => q.elim (fun w => absurd rfl w) (fun w => by omega)⟩
theorem zA0_clr {σ : zSt} {i : Nat} {a b : Int} (p : Int) : ¬ zA0 (zclr σ i a b i) p = 0 ↔ (¬ zA0 (σ i) p = 0 ∧ ¬ (a ≤ p ∧ p < b)) := by
  by_cases hp : 0 ≤ p ∧ p < 600
  · rw [zA0_in hp.1 hp.2, zA0_in hp.1 hp.2]
    have hn : ((p.toNat : Nat) : Int) = p := by omega
    unfold zclr
    by_cases q : i = i ∧ a ≤ (p.toNat : Int) ∧ (p.toNat : Int) < b
    · rw [if_pos q]
      exact ⟨fun w => absurd rfl w, fun w => absurd ⟨by have := q.2.1; omega, by have := q.2.2; omega⟩ w.2⟩
    · rw [if_neg q]
      exact ⟨fun w => ⟨w, fun r => q ⟨rfl, by omega, by omega⟩⟩, fun w => w.1⟩
  · rw [zA0_out (by omega), zA0_out (by omega)]
    exact ⟨fun q => absurd rfl q, fun q => absurd rfl q.1⟩
/-! how many of m places from x on are empty -/
def zCt (f : Nat → Int32) (x : Int) : Nat → Int
  | 0 => 0
  | m + 1 => zCt f x m + (if zA0 f (x + m) = 0 then 1 else 0)
theorem zCt_b (f : Nat → Int32) (x : Int) : ∀ m : Nat, 0 ≤ zCt f x m ∧ zCt f x m ≤ m := by
  intro m
  induction m with
  | zero => exact ⟨Int.le_refl _, Int.le_refl _⟩
  | succ m ih =>
    unfold zCt
    by_cases h : zA0 f (x + m) = 0
    · rw [if_pos h]; omega
    · rw [if_neg h]; omega
theorem zCt_add (f : Nat → Int32) (x : Int) (m : Nat) : ∀ n : Nat, zCt f x (m + n) = zCt f x m + zCt f (x + m) n := by
  intro n
  induction n with
  | zero => show zCt f x m = zCt f x m + 0; omega
  | succ n ih =>
    show zCt f x (m + n) + (if zA0 f (x + ((m + n : Nat) : Int)) = 0 then 1 else 0) = zCt f x m + (zCt f (x + m) n + (if zA0 f (x + m + n) = 0 then 1 else 0))
    rw [ih, show x + ((m + n : Nat) : Int) = x + m + n by omega]
    omega
theorem zCt_front (f : Nat → Int32) (x : Int) (m : Nat) : zCt f x (m + 1) = (if zA0 f x = 0 then 1 else 0) + zCt f (x + 1) m := by
  rw [Nat.add_comm m 1, zCt_add f x 1 m]
  show (0 + (if zA0 f (x + ((0 : Nat) : Int)) = 0 then 1 else 0)) + zCt f (x + 1) m = _
  rw [show x + ((0 : Nat) : Int) = x by omega]
  omega
theorem zCt_full (f : Nat → Int32) (x : Int) : ∀ m : Nat, (∀ p, x ≤ p → p < x + m → ¬ zA0 f p = 0) → zCt f x m = 0 := by
  intro m
  induction m with
  | zero => intro _; rfl
  | succ m ih =>
    intro h
    unfold zCt
    rw [ih (fun p h1 h2 => h p h1 (by omega)), if_neg (h (x + m) (by omega) (by omega))]
    rfl
theorem zCt_none (f : Nat → Int32) (x : Int) : ∀ m : Nat, (∀ p, x ≤ p → p < x + m → zA0 f p = 0) → zCt f x m = m := by
  intro m
  induction m with
  | zero => intro _; rfl
  | succ m ih =>
    intro h
    unfold zCt
    rw [ih (fun p h1 h2 => h p h1 (by omega)), if_pos (h (x + m) (by omega) (by omega))]
    omega
theorem l_countE (c : Nat) (σ : zSt) (y : Int32) (hy : y.toInt ≤ 600) : ∀ (m : Nat) (n x : Int32), 0 ≤ n.toInt → n.toInt ≤ x.toInt → (y.toInt - x.toInt).toNat < m → kl_P_countEmpty_5 c σ y m n x ∧ (l_P_countEmpty_5 c σ y m n x).toInt = n.toInt + zCt (σ (c + 1)) x.toInt (y.toInt - x.toInt).toNat := by
  intro m
  induction m with
  | zero => intro n x _ _ h; omega
  | succ m ih =>
    intro n x hn0 hnx h
    unfold kl_P_countEmpty_5 l_P_countEmpty_5
    by_cases h1 : y ≤ x
    · rw [if_pos h1]
      have h1' := zle.mp h1
      refine ⟨fun q => absurd h1 q, ?_⟩
      rw [show (y.toInt - x.toInt).toNat = 0 by omega]
      show n.toInt = n.toInt + 0
      omega
    · rw [if_neg h1]
      have h1' : x.toInt < y.toInt := by rw [zle] at h1; omega
      have hi : (x + 1).toInt = x.toInt + 1 := zinc' (by omega)
      have hn1 : (n + 1).toInt = n.toInt + 1 := zinc' (by omega)
      dsimp only [zlet]
      obtain ⟨k1, k2⟩ := ih (n + 1) (x + 1) (by omega) (by omega) (by omega)
      obtain ⟨g1, g2⟩ := ih n (x + 1) hn0 (by omega) (by omega)
      refine ⟨fun _ => ⟨k_at c σ x, fun r hr => ⟨fun _ => k1, fun _ => g1⟩⟩, ?_⟩
      rw [show (y.toInt - x.toInt).toNat = (y.toInt - (x.toInt + 1)).toNat + 1 by omega, zCt_front]
      rw [f_at]
      by_cases h2 : zA0 (σ (c + 1)) x.toInt = 0
      · rw [if_pos h2, if_pos h2, k2, hi, hn1]; omega
      · rw [if_neg h2, if_neg h2, g2, hi]; omega
theorem countEmpty (c : Nat) (σ : zSt) (x y : Int32) (hx : 0 ≤ x.toInt) (hy : y.toInt ≤ 600) : k_P_countEmpty c σ x y ∧ (f_P_countEmpty c σ x y).toInt = zCt (σ (c + 1)) x.toInt (y.toInt - x.toInt).toNat := by
  unfold k_P_countEmpty f_P_countEmpty
  dsimp only [zlet]
  obtain ⟨k1, k2⟩ := l_countE c σ y hy ((y.toInt - x.toInt).toNat + 2) 0 x (by decide) (by rw [zt0]; omega) (by omega)
  refine ⟨k1, ?_⟩
  rw [k2, zt0]
  omega
/-! the greatest: only that it comes to an end -/
theorem l_great (c : Nat) (σ : zSt) (y : Int32) : ∀ (m : Nat) (n x : Int32), (y.toInt - x.toInt).toNat < m → kl_P_greatest_5 c σ y m n x := by
  intro m
  induction m with
  | zero => intro n x h; omega
  | succ m ih =>
    intro n x h
    unfold kl_P_greatest_5
    intro h1
    rw [zle] at h1
    have hi : (x + 1).toInt = x.toInt + 1 := zinc (y := y) (zlt.mpr (by omega))
    exact ⟨k_at c σ x, fun r hr => ih _ _ (by omega)⟩
theorem greatest (c : Nat) (σ : zSt) (x y : Int32) : k_P_greatest c σ x y := l_great c σ y _ 0 x (by omega)
