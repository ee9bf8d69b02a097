theorem zcol9 : (zcol 9).toInt = 2 := rfl
theorem zcol11 : (zcol 11).toInt = 9 := rfl
theorem zlen9 : (zlen 9).toInt = 80 := rfl
theorem zlen11 : (zlen 11).toInt = 360 := rfl
theorem zidx9 {a x : Int32} (h0 : 0 ≤ a.toInt) (h1 : a.toInt ≤ 40) (h2 : 0 ≤ x.toInt) (h3 : x.toInt ≤ 9) : (a * zcol 9).toInt = 2 * a.toInt ∧ (a * zcol 9 + x).toInt = 2 * a.toInt + x.toInt := by
  have e : (a * zcol 9).toInt = 2 * a.toInt := by
    rw [zmul (by rw [zcol9]; omega) (by rw [zcol9]; omega), zcol9]; omega
  refine ⟨e, ?_⟩
  rw [zadd (by omega) (by omega), e]
theorem zidx11 {a x : Int32} (h0 : 0 ≤ a.toInt) (h1 : a.toInt ≤ 40) (h2 : 0 ≤ x.toInt) (h3 : x.toInt ≤ 9) : (a * zcol 11).toInt = 9 * a.toInt ∧ (a * zcol 11 + x).toInt = 9 * a.toInt + x.toInt := by
  have e : (a * zcol 11).toInt = 9 * a.toInt := by
    rw [zmul (by rw [zcol11]; omega) (by rw [zcol11]; omega), zcol11]; omega
  refine ⟨e, ?_⟩
  rw [zadd (by omega) (by omega), e]
theorem W_set9 {σ : zSt} {a i v : Int32} (h0 : 0 ≤ a.toInt) (h1 : a.toInt < 40) (h2 : 0 ≤ i.toInt) (h3 : i.toInt < 2) : k_W_setCell 9 σ a i v ∧ f_W_setCell 9 σ a i v = zuf σ 10 (2 * a.toInt.toNat + i.toInt.toNat) v := by
  have e := (zidx9 h0 (by omega) h2 (by omega)).2
  unfold k_W_setCell f_W_setCell
  rw [if_neg (by rw [zlt, zt0]; omega), if_neg (by rw [zle, zlen9]; omega)]
  refine ⟨fun _ _ => zvin (by omega) (by show _ < ((80 : Nat) : Int); omega), ?_⟩
  rw [zNat, e]
  show zuf σ 10 _ v = _
  congr 1
  omega
theorem W_set11 {σ : zSt} {a i v : Int32} (h0 : 0 ≤ a.toInt) (h1 : a.toInt < 40) (h2 : 0 ≤ i.toInt) (h3 : i.toInt < 9) : k_W_setCell 11 σ a i v ∧ f_W_setCell 11 σ a i v = zuf σ 12 (9 * a.toInt.toNat + i.toInt.toNat) v := by
  have e := (zidx11 h0 (by omega) h2 (by omega)).2
  unfold k_W_setCell f_W_setCell
  rw [if_neg (by rw [zlt, zt0]; omega), if_neg (by rw [zle, zlen11]; omega)]
  refine ⟨fun _ _ => zvin (by omega) (by show _ < ((360 : Nat) : Int); omega), ?_⟩
  rw [zNat, e]
  show zuf σ 12 _ v = _
  congr 1
  omega
theorem W_cell9 {σ : zSt} {a i : Int32} (h0 : 0 ≤ a.toInt) (h1 : a.toInt < 40) (h2 : 0 ≤ i.toInt) (h3 : i.toInt < 2) : k_W_cell 9 σ a i ∧ f_W_cell 9 σ a i = σ 10 (2 * a.toInt.toNat + i.toInt.toNat) := by
  have e := (zidx9 h0 (by omega) h2 (by omega)).2
  unfold k_W_cell f_W_cell
  rw [if_neg (by rw [zlt, zt0]; omega), if_neg (by rw [zle, zlen9]; omega)]
  refine ⟨fun _ _ => zvin (by omega) (by show _ < ((80 : Nat) : Int); omega), ?_⟩
  rw [zNat, e]
  show σ 10 _ = _
  congr 1
  omega
theorem W_cell11 {σ : zSt} {a i : Int32} (h0 : 0 ≤ a.toInt) (h1 : a.toInt < 40) (h2 : 0 ≤ i.toInt) (h3 : i.toInt < 9) : k_W_cell 11 σ a i ∧ f_W_cell 11 σ a i = σ 12 (9 * a.toInt.toNat + i.toInt.toNat) := by
  have e := (zidx11 h0 (by omega) h2 (by omega)).2
  unfold k_W_cell f_W_cell
  rw [if_neg (by rw [zlt, zt0]; omega), if_neg (by rw [zle, zlen11]; omega)]
  refine ⟨fun _ _ => zvin (by omega) (by show _ < ((360 : Nat) : Int); omega), ?_⟩
  rw [zNat, e]
  show σ 12 _ = _
  congr 1
  omega
theorem W_holds (c : Nat) (σ : zSt) (a : Int32) : (f_W_holds c σ a = 0 ↔ ¬ (0 ≤ a.toInt ∧ a.toInt < (σ c 2).toInt)) ∧ (¬ f_W_holds c σ a = 0 → f_W_holds c σ a = 1) := by
  unfold f_W_holds
  by_cases h1 : a < 0
  · rw [if_pos h1]
    rw [zlt, zt0] at h1
    exact ⟨⟨fun _ q => by omega, fun _ => rfl⟩, fun q => absurd rfl q⟩
  · rw [if_neg h1]
    by_cases h2 : σ c 2 ≤ a
    · rw [if_pos h2]
      rw [zle] at h2
      exact ⟨⟨fun _ q => by omega, fun _ => rfl⟩, fun q => absurd rfl q⟩
    · rw [if_neg h2]
      rw [zle] at h2
      rw [zlt, zt0] at h1
      exact ⟨⟨fun q => absurd q (by decide), fun q => absurd (by omega) q⟩, fun _ => rfl⟩
theorem W_remove9 {σ : zSt} {a : Int32} (h0 : 0 ≤ a.toInt) (h1 : a.toInt < (σ 9 2).toInt) (h2 : (σ 9 2).toInt ≤ 40) : k_W_remove 9 σ a ∧ f_W_remove 9 σ a = zshf (zuf σ 9 2 (σ 9 2 - 1)) [10] (2 * a.toInt) (2 * ((σ 9 2).toInt - 1)) 2 := by
  have hh : ¬ f_W_holds 9 σ a = 0 := fun q => ((W_holds 9 σ a).1.mp q) ⟨h0, h1⟩
  have hd : (σ 9 2 - 1).toInt = (σ 9 2).toInt - 1 := zdec1 (by omega)
  have e2 : zuf σ 9 2 (σ 9 2 - 1) 9 2 = σ 9 2 - 1 := zuf_eq
  have e3 := (zidx9 (a := σ 9 2 - 1) (x := 0) (by omega) (by omega) (by rw [zt0]; omega) (by rw [zt0]; omega)).1
  have e4 := (zidx9 (a := a) (x := 0) h0 (by omega) (by rw [zt0]; omega) (by rw [zt0]; omega)).1
  obtain ⟨k1, k2⟩ := l_W_remove 9 2 80 zcol9 (by decide) zlen9 rfl (by decide) (by decide) ((((((zuf σ 9 2 ((σ 9 2) - 1)) 9 2) * (zcol 9))).toInt - ((a * (zcol 9))).toInt).toNat + 2) (zuf σ 9 2 (σ 9 2 - 1)) (a * zcol 9) (by omega) (by rw [e2]; omega) (by omega)
  unfold k_W_remove f_W_remove
  dsimp only [zlet]
  rw [if_neg hh]
  refine ⟨fun _ _ _ => k1, ?_⟩
  rw [k2, e2, e3, e4, hd]
theorem W_remove11 {σ : zSt} {a : Int32} (h0 : 0 ≤ a.toInt) (h1 : a.toInt < (σ 11 2).toInt) (h2 : (σ 11 2).toInt ≤ 40) : k_W_remove 11 σ a ∧ f_W_remove 11 σ a = zshf (zuf σ 11 2 (σ 11 2 - 1)) [12] (9 * a.toInt) (9 * ((σ 11 2).toInt - 1)) 9 := by
  have hh : ¬ f_W_holds 11 σ a = 0 := fun q => ((W_holds 11 σ a).1.mp q) ⟨h0, h1⟩
  have hd : (σ 11 2 - 1).toInt = (σ 11 2).toInt - 1 := zdec1 (by omega)
  have e2 : zuf σ 11 2 (σ 11 2 - 1) 11 2 = σ 11 2 - 1 := zuf_eq
  have e3 := (zidx11 (a := σ 11 2 - 1) (x := 0) (by omega) (by omega) (by rw [zt0]; omega) (by rw [zt0]; omega)).1
  have e4 := (zidx11 (a := a) (x := 0) h0 (by omega) (by rw [zt0]; omega) (by rw [zt0]; omega)).1
  obtain ⟨k1, k2⟩ := l_W_remove 11 9 360 zcol11 (by decide) zlen11 rfl (by decide) (by decide) ((((((zuf σ 11 2 ((σ 11 2) - 1)) 11 2) * (zcol 11))).toInt - ((a * (zcol 11))).toInt).toNat + 2) (zuf σ 11 2 (σ 11 2 - 1)) (a * zcol 11) (by omega) (by rw [e2]; omega) (by omega)
  unfold k_W_remove f_W_remove
  dsimp only [zlet]
  rw [if_neg hh]
  refine ⟨fun _ _ _ => k1, ?_⟩
  rw [k2, e2, e3, e4, hd]
theorem zshf_at {σ : zSt} {I : List Nat} {a b : Int} {d u j : Nat} (h : u ∈ I) : zshf σ I a b d u j = if a ≤ (j : Int) ∧ (j : Int) < b then σ u (j + d) else σ u j := by
  unfold zshf
  by_cases q : a ≤ (j : Int) ∧ (j : Int) < b
  · rw [if_pos ⟨h, q⟩, if_pos q]
  · rw [if_neg (fun w => q w.2), if_neg q]
