/-! rows of the wire -/
theorem zidx3 {a x : Int32} (h0 : 0 ≤ a.toInt) (h1 : a.toInt ≤ 40) (h2 : 0 ≤ x.toInt) (h3 : x.toInt ≤ 3) : (3 * a).toInt = 3 * a.toInt ∧ (3 * a + x).toInt = 3 * a.toInt + x.toInt := by
  have e : (3 * a).toInt = 3 * a.toInt := by
    rw [zmul (by rw [zt3]; omega) (by rw [zt3]; omega), zt3]
  refine ⟨e, ?_⟩
  rw [zadd (by omega) (by omega), e]
theorem zcol9 : (zcol 9).toInt = 2 := rfl
theorem zcol11 : (zcol 11).toInt = 9 := rfl
theorem zlen9 : (zlen 9).toInt = 80 := rfl
theorem zlen11 : (zlen 11).toInt = 360 := rfl
theorem zidx9 {a x : Int32} (h0 : 0 ≤ a.toInt) (h1 : a.toInt ≤ 40) (h2 : 0 ≤ x.toInt) (h3 : x.toInt ≤ 9) : (a * zcol 9).toInt = 2 * a.toInt ∧ (a * zcol 9 + x).toInt = 2 * a.toInt + x.toInt := by
  have e : (a * zcol 9).toInt = 2 * a.toInt := by
    rw [zmul (by rw [zcol9]; omega) (by rw [zcol9]; omega), zcol9]; omega
  refine ⟨e, ?_⟩
  rw [zadd (by omega) (by omega), e]
theorem zidx11 {a x : Int32} (h0 : 0 ≤ a.toInt) (h1 : a.toInt ≤ 40) (h2 : 0 ≤ x.toInt) (h3 : x.toInt ≤ 9) : (a * zcol 11).toInt = 9 * a.toInt ∧ (a * zcol 11 + x).toInt = 9 * a.toInt + x.toInt := by
  have e : (a * zcol 11).toInt = 9 * a.toInt := by
    rw [zmul (by rw [zcol11]; omega) (by rw [zcol11]; omega), zcol11]; omega
  refine ⟨e, ?_⟩
  rw [zadd (by omega) (by omega), e]
theorem W_set9 {σ : zSt} {a i v : Int32} (h0 : 0 ≤ a.toInt) (h1 : a.toInt < 40) (h2 : 0 ≤ i.toInt) (h3 : i.toInt < 2) : k_W_setCell 9 σ a i v ∧ f_W_setCell 9 σ a i v = zuf σ 10 (2 * a.toInt.toNat + i.toInt.toNat) v := by
  have e := (zidx9 h0 (by omega) h2 (by omega)).2
  unfold k_W_setCell f_W_setCell
  rw [if_neg (by rw [zlt, zt0]; omega), if_neg (by rw [zle, zlen9]; omega)]
  refine ⟨fun _ _ => zvin (by omega) (by show _ < ((80 : Nat) : Int); omega), ?_⟩
  rw [zNat, e]
  show zuf σ 10 _ v = _
  congr 1
  omega
theorem W_set11 {σ : zSt} {a i v : Int32} (h0 : 0 ≤ a.toInt) (h1 : a.toInt < 40) (h2 : 0 ≤ i.toInt) (h3 : i.toInt < 9) : k_W_setCell 11 σ a i v ∧ f_W_setCell 11 σ a i v = zuf σ 12 (9 * a.toInt.toNat + i.toInt.toNat) v := by
  have e := (zidx11 h0 (by omega) h2 (by omega)).2
  unfold k_W_setCell f_W_setCell
  rw [if_neg (by rw [zlt, zt0]; omega), if_neg (by rw [zle, zlen11]; omega)]
  refine ⟨fun _ _ => zvin (by omega) (by show _ < ((360 : Nat) : Int); omega), ?_⟩
  rw [zNat, e]
  show zuf σ 12 _ v = _
  congr 1
  omega
theorem W_cell9 {σ : zSt} {a i : Int32} (h0 : 0 ≤ a.toInt) (h1 : a.toInt < 40) (h2 : 0 ≤ i.toInt) (h3 : i.toInt < 2) : k_W_cell 9 σ a i ∧ f_W_cell 9 σ a i = σ 10 (2 * a.toInt.toNat + i.toInt.toNat) := by
  have e := (zidx9 h0 (by omega) h2 (by omega)).2
  unfold k_W_cell f_W_cell
  rw [if_neg (by rw [zlt, zt0]; omega), if_neg (by rw [zle, zlen9]; omega)]
  refine ⟨fun _ _ => zvin (by omega) (by show _ < ((80 : Nat) : Int); omega), ?_⟩
  rw [zNat, e]
  show σ 10 _ = _
  congr 1
  omega
theorem W_cell11 {σ : zSt} {a i : Int32} (h0 : 0 ≤ a.toInt) (h1 : a.toInt < 40) (h2 : 0 ≤ i.toInt) (h3 : i.toInt < 9) : k_W_cell 11 σ a i ∧ f_W_cell 11 σ a i = σ 12 (9 * a.toInt.toNat + i.toInt.toNat) := by
  have e := (zidx11 h0 (by omega) h2 (by omega)).2
  unfold k_W_cell f_W_cell
  rw [if_neg (by rw [zlt, zt0]; omega), if_neg (by rw [zle, zlen11]; omega)]
  refine ⟨fun _ _ => zvin (by omega) (by show _ < ((360 : Nat) : Int); omega), ?_⟩
  rw [zNat, e]
  show σ 12 _ = _
  congr 1
  omega
theorem W_holds (c : Nat) (σ : zSt) (a : Int32) : (f_W_holds c σ a = 0 ↔ ¬ (0 ≤ a.toInt ∧ a.toInt < (σ c 2).toInt)) ∧ (¬ f_W_holds c σ a = 0 → f_W_holds c σ a = 1) := by
  unfold f_W_holds
  by_cases h1 : a < 0
  · rw [if_pos h1]
    rw [zlt, zt0] at h1
    exact ⟨⟨fun _ q => by omega, fun _ => rfl⟩, fun q => absurd rfl q⟩
  · rw [if_neg h1]
    by_cases h2 : σ c 2 ≤ a
    · rw [if_pos h2]
      rw [zle] at h2
      exact ⟨⟨fun _ q => by omega, fun _ => rfl⟩, fun q => absurd rfl q⟩
    · rw [if_neg h2]
      rw [zle] at h2
      rw [zlt, zt0] at h1
      exact ⟨⟨fun q => absurd q (by decide), fun q => absurd (by omega) q⟩, fun _ => rfl⟩
theorem W_remove9 {σ : zSt} {a : Int32} (h0 : 0 ≤ a.toInt) (h1 : a.toInt < (σ 9 2).toInt) (h2 : (σ 9 2).toInt ≤ 40) : k_W_remove 9 σ a ∧ f_W_remove 9 σ a = zshf (zuf σ 9 2 (σ 9 2 - 1)) [10] (2 * a.toInt) (2 * ((σ 9 2).toInt - 1)) 2 := by
  have hh : ¬ f_W_holds 9 σ a = 0 := fun q => ((W_holds 9 σ a).1.mp q) ⟨h0, h1⟩
  have hd : (σ 9 2 - 1).toInt = (σ 9 2).toInt - 1 := zdec1 (by omega)
  have e2 : zuf σ 9 2 (σ 9 2 - 1) 9 2 = σ 9 2 - 1 := zuf_eq
  have e3 := (zidx9 (a := σ 9 2 - 1) (x := 0) (by omega) (by omega) (by rw [zt0]; omega) (by rw [zt0]; omega)).1
  have e4 := (zidx9 (a := a) (x := 0) h0 (by omega) (by rw [zt0]; omega) (by rw [zt0]; omega)).1
  obtain ⟨k1, k2⟩ := l_W_remove 9 2 80 zcol9 (by decide) zlen9 rfl (by decide) (by decide) ((((((zuf σ 9 2 ((σ 9 2) - 1)) 9 2) * (zcol 9))).toInt - ((a * (zcol 9))).toInt).toNat + 2) (zuf σ 9 2 (σ 9 2 - 1)) (a * zcol 9) (by omega) (by rw [e2]; omega) (by omega)
  unfold k_W_remove f_W_remove
  dsimp only [zlet]
  rw [if_neg hh]
  refine ⟨fun _ _ _ => k1, ?_⟩
  rw [k2, e2, e3, e4, hd]
theorem W_remove11 {σ : zSt} {a : Int32} (h0 : 0 ≤ a.toInt) (h1 : a.toInt < (σ 11 2).toInt) (h2 : (σ 11 2).toInt ≤ 40) : k_W_remove 11 σ a ∧ f_W_remove 11 σ a = zshf (zuf σ 11 2 (σ 11 2 - 1)) [12] (9 * a.toInt) (9 * ((σ 11 2).toInt - 1)) 9 := by
  have hh : ¬ f_W_holds 11 σ a = 0 := fun q => ((W_holds 11 σ a).1.mp q) ⟨h0, h1⟩
  have hd : (σ 11 2 - 1).toInt = (σ 11 2).toInt - 1 := zdec1 (by omega)
  have e2 : zuf σ 11 2 (σ 11 2 - 1) 11 2 = σ 11 2 - 1 := zuf_eq
  have e3 := (zidx11 (a := σ 11 2 - 1) (x := 0) (by omega) (by omega) (by rw [zt0]; omega) (by rw [zt0]; omega)).1
  have e4 := (zidx11 (a := a) (x := 0) h0 (by omega) (by rw [zt0]; omega) (by rw [zt0]; omega)).1
  obtain ⟨k1, k2⟩ := l_W_remove 11 9 360 zcol11 (by decide) zlen11 rfl (by decide) (by decide) ((((((zuf σ 11 2 ((σ 11 2) - 1)) 11 2) * (zcol 11))).toInt - ((a * (zcol 11))).toInt).toNat + 2) (zuf σ 11 2 (σ 11 2 - 1)) (a * zcol 11) (by omega) (by rw [e2]; omega) (by omega)
  unfold k_W_remove f_W_remove
  dsimp only [zlet]
  rw [if_neg hh]
  refine ⟨fun _ _ _ => k1, ?_⟩
  rw [k2, e2, e3, e4, hd]
theorem M_takes {τ : zSt} {a : Int32} (h0 : 0 ≤ a.toInt) (h1 : a.toInt < (τ 13 32).toInt) (h2 : (τ 13 32).toInt ≤ 40) : k_M_takes τ a ∧ f_M_takes τ a = zshf (zuf τ 13 32 (τ 13 32 - 1)) [18, 19] a.toInt ((τ 13 32).toInt - 1) 1 := by
  have hd : (τ 13 32 - 1).toInt = (τ 13 32).toInt - 1 := zdec1 (by omega)
  have e2 : zuf τ 13 32 (τ 13 32 - 1) 13 32 = τ 13 32 - 1 := zuf_eq
  obtain ⟨k1, k2⟩ := l_takes (((((zuf τ 13 32 ((τ 13 32) - 1)) 13 32)).toInt - (a).toInt).toNat + 2) (zuf τ 13 32 (τ 13 32 - 1)) a h0 (by rw [e2]; omega) (by omega)
  unfold k_M_takes f_M_takes
  dsimp only [zlet]
  refine ⟨k1, ?_⟩
  rw [k2, e2, hd]
theorem M_leaves {τ : zSt} {a : Int32} (h0 : 0 ≤ a.toInt) (h1 : a.toInt < (τ 13 38).toInt) (h2 : (τ 13 38).toInt ≤ 40) : k_M_leaves τ a ∧ f_M_leaves τ a = zshf (zshf (zuf τ 13 38 (τ 13 38 - 1)) [20, 21, 22] a.toInt ((τ 13 38).toInt - 1) 1) [23, 24] (3 * a.toInt) (3 * ((τ 13 38).toInt - 1)) 3 := by
  have hd : (τ 13 38 - 1).toInt = (τ 13 38).toInt - 1 := zdec1 (by omega)
  have e2 : zuf τ 13 38 (τ 13 38 - 1) 13 38 = τ 13 38 - 1 := zuf_eq
  obtain ⟨k1, k2⟩ := l_leaves1 a (((((zuf τ 13 38 ((τ 13 38) - 1)) 13 38)).toInt - (a).toInt).toNat + 2) (zuf τ 13 38 (τ 13 38 - 1)) a h0 (by rw [e2]; omega) (by omega)
  rw [e2, hd] at k2
  have e3 : zshf (zuf τ 13 38 (τ 13 38 - 1)) [20, 21, 22] a.toInt ((τ 13 38).toInt - 1) 1 13 38 = τ 13 38 - 1 := by
    rw [zshf_ne (by decide)]; exact e2
  have e4 := (zidx3 (a := τ 13 38 - 1) (x := 0) (by omega) (by omega) (by rw [zt0]; omega) (by rw [zt0]; omega)).1
  have e5 := (zidx3 (a := a) (x := 0) h0 (by omega) (by rw [zt0]; omega) (by rw [zt0]; omega)).1
  unfold k_M_leaves f_M_leaves
  dsimp only [zlet]
  rw [e2, hd] at k1 ⊢
  rw [k2]
  obtain ⟨k3, k4⟩ := l_leaves2 ((((3 * ((zshf (zuf τ 13 38 (τ 13 38 - 1)) [20, 21, 22] a.toInt ((τ 13 38).toInt - 1) 1) 13 38))).toInt - ((3 * a)).toInt).toNat + 2) (zshf (zuf τ 13 38 (τ 13 38 - 1)) [20, 21, 22] a.toInt ((τ 13 38).toInt - 1) 1) (3 * a) (by omega) (by rw [e3]; omega) (by omega)
  refine ⟨⟨k1, fun r hr => by subst hr; exact k3⟩, ?_⟩
  rw [k4, e3, e4, e5, hd]
/-! rows alike -/
def zSg (f g h : Nat → Int32) : Prop := ∀ p : Nat, p < 40 → f (2 * p) = g p ∧ f (2 * p + 1) = h p
def zAkN (f g h : Nat → Int32) : Prop := ∀ p : Nat, p < 40 → f (9 * p) = g p ∧ f (9 * p + 1) = h p
def zAkC (f g : Nat → Int32) : Prop := ∀ p : Nat, p < 40 → f (9 * p + 2) = g p
def zAkB (f g h : Nat → Int32) : Prop := ∀ p : Nat, p < 40 → ∀ i : Nat, i < 3 → f (9 * p + 3 + 2 * i) = g (3 * p + i) ∧ f (9 * p + 4 + 2 * i) = h (3 * p + i)
theorem zshf_at {σ : zSt} {I : List Nat} {a b : Int} {d u j : Nat} (h : u ∈ I) : zshf σ I a b d u j = if a ≤ (j : Int) ∧ (j : Int) < b then σ u (j + d) else σ u j := by
  unfold zshf
  by_cases q : a ≤ (j : Int) ∧ (j : Int) < b
  · rw [if_pos ⟨h, q⟩, if_pos q]
  · rw [if_neg (fun w => q w.2), if_neg q]
theorem zSg_shift {σ τ : zSt} {a n : Int} (h : zSg (σ 10) (τ 18) (τ 19)) (hn : n ≤ 40) : zSg (zshf σ [10] (2 * a) (2 * (n - 1)) 2 10) (zshf τ [18, 19] a (n - 1) 1 18) (zshf τ [18, 19] a (n - 1) 1 19) := by
  intro p hp
  rw [zshf_at (by decide), zshf_at (by decide), zshf_at (by decide), zshf_at (by decide)]
  by_cases q : a ≤ (p : Int) ∧ (p : Int) < n - 1
  · rw [if_pos q, if_pos q, if_pos (by omega), if_pos (by omega)]
    exact h (p + 1) (by omega)
  · rw [if_neg q, if_neg q, if_neg (by omega), if_neg (by omega)]
    exact h p hp
theorem zAkN_shift {σ τ : zSt} {a n : Int} (h : zAkN (σ 12) (τ 20) (τ 21)) (hn : n ≤ 40) : zAkN (zshf σ [12] (9 * a) (9 * (n - 1)) 9 12) (zshf τ [20, 21, 22] a (n - 1) 1 20) (zshf τ [20, 21, 22] a (n - 1) 1 21) := by
  intro p hp
  rw [zshf_at (by decide), zshf_at (by decide), zshf_at (by decide), zshf_at (by decide)]
  by_cases q : a ≤ (p : Int) ∧ (p : Int) < n - 1
  · rw [if_pos q, if_pos q, if_pos (by omega), if_pos (by omega)]
    exact h (p + 1) (by omega)
  · rw [if_neg q, if_neg q, if_neg (by omega), if_neg (by omega)]
    exact h p hp
theorem zAkC_shift {σ τ : zSt} {a n : Int} (h : zAkC (σ 12) (τ 22)) (hn : n ≤ 40) : zAkC (zshf σ [12] (9 * a) (9 * (n - 1)) 9 12) (zshf τ [20, 21, 22] a (n - 1) 1 22) := by
  intro p hp
  rw [zshf_at (by decide), zshf_at (by decide)]
  by_cases q : a ≤ (p : Int) ∧ (p : Int) < n - 1
  · rw [if_pos q, if_pos (by omega)]
    exact h (p + 1) (by omega)
  · rw [if_neg q, if_neg (by omega)]
    exact h p hp
theorem zAkB_shift {σ τ : zSt} {a n : Int} (h : zAkB (σ 12) (τ 23) (τ 24)) (hn : n ≤ 40) : zAkB (zshf σ [12] (9 * a) (9 * (n - 1)) 9 12) (zshf τ [23, 24] (3 * a) (3 * (n - 1)) 3 23) (zshf τ [23, 24] (3 * a) (3 * (n - 1)) 3 24) := by
  intro p hp i hi
  rw [zshf_at (by decide), zshf_at (by decide), zshf_at (by decide), zshf_at (by decide)]
  by_cases q : a ≤ (p : Int) ∧ (p : Int) < n - 1
  · rw [if_pos (by omega), if_pos (by omega), if_pos (by omega), if_pos (by omega)]
    have h1 := h (p + 1) (by omega) i hi
    rw [show 9 * p + 3 + 2 * i + 9 = 9 * (p + 1) + 3 + 2 * i by omega, show 9 * p + 4 + 2 * i + 9 = 9 * (p + 1) + 4 + 2 * i by omega, show 3 * p + i + 3 = 3 * (p + 1) + i by omega]
    exact h1
  · rw [if_neg (by omega), if_neg (by omega), if_neg (by omega), if_neg (by omega)]
    exact h p hp i hi
