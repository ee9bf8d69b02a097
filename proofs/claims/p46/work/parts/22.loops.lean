def zclr (σ : zSt) (i : Nat) (a b : Int) : zSt := fun u j => if u = i ∧ a ≤ (j : Int) ∧ (j : Int) < b then 0 else σ u j
theorem zclr_ne {σ : zSt} {i : Nat} {a b : Int} {u : Nat} (h : u ≠ i) : zclr σ i a b u = σ u := by
  funext j
  simp [zclr, h]
theorem zclr_nil {σ : zSt} {i : Nat} {a b : Int} (h : b ≤ a) : zclr σ i a b = σ := by
  funext u j
  unfold zclr
  rw [if_neg]
  omega
theorem zclr_cons {σ : zSt} {i : Nat} {x : Int32} {b : Int} (h0 : 0 ≤ x.toInt) (h : x.toInt < b) : zclr (zuf σ i x.toNatClampNeg 0) i (x.toInt + 1) b = zclr σ i x.toInt b := by
  funext u j
  unfold zclr zuf
  rw [zNat]
  by_cases h1 : u = i
  · by_cases h2 : j = x.toInt.toNat
    · rw [if_neg (by omega), if_pos h1, if_pos h2, if_pos (by omega)]
    · rw [if_pos h1, if_neg h2]
      by_cases h3 : x.toInt + 1 ≤ j ∧ (j : Int) < b
      · rw [if_pos ⟨h1, h3⟩, if_pos (by omega)]
      · rw [if_neg (fun q => h3 q.2), if_neg (by omega)]
  · rw [if_neg (fun q => h1 q.1), if_neg h1, if_neg (fun q => h1 q.1)]
theorem l_empty (c : Nat) (y : Int32) (hy : y.toInt ≤ 600) : ∀ (m : Nat) (σ : zSt) (x : Int32), 0 ≤ x.toInt → (y.toInt - x.toInt).toNat < m → kl_P_empty_6 c y m σ x ∧ l_P_empty_6 c y m σ x = zclr σ (c + 1) x.toInt y.toInt := by
  intro m
  induction m with
  | zero => intro σ x _ h; omega
  | succ m ih =>
    intro σ x hx h
    unfold kl_P_empty_6 l_P_empty_6
    by_cases h1 : y ≤ x
    · rw [if_pos h1]
      exact ⟨fun h2 => absurd h1 h2, (zclr_nil (zle.mp h1)).symm⟩
    · rw [if_neg h1]
      have h1' := h1
      rw [zle] at h1'
      have h2 : ¬ (600 : Int32) ≤ x := by
        rw [zle, zt600]; omega
      have hi : (x + 1).toInt = x.toInt + 1 := zinc' (by omega)
      obtain ⟨k1, k2⟩ := ih (zuf σ (c + 1) x.toNatClampNeg 0) (x + 1) (by omega) (by omega)
      refine ⟨fun _ _ => ⟨zvin hx (by omega), k1⟩, ?_⟩
      rw [if_neg h2, k2, hi]
      exact zclr_cons hx (by omega)
theorem P_empty (c : Nat) (σ : zSt) (x y : Int32) (hx : 0 ≤ x.toInt) (hy : y.toInt ≤ 600) : k_P_empty c σ x y ∧ f_P_empty c σ x y = zclr σ (c + 1) x.toInt y.toInt := by
  have h0 : (if x < 0 then 0 else x) = x := if_neg (by rw [zlt, zt0]; omega)
  unfold k_P_empty f_P_empty
  rw [h0]
  exact l_empty c y hy _ σ x hx (by omega)
def zshf (σ : zSt) (I : List Nat) (a b : Int) (d : Nat) : zSt := fun u j => if u ∈ I ∧ a ≤ (j : Int) ∧ (j : Int) < b then σ u (j + d) else σ u j
theorem zshf_ne {σ : zSt} {I : List Nat} {a b : Int} {d u : Nat} (h : u ∉ I) : zshf σ I a b d u = σ u := by
  funext j
  unfold zshf
  rw [if_neg (fun q => h q.1)]
theorem zshf_nil {σ : zSt} {I : List Nat} {a b : Int} {d : Nat} (h : b ≤ a) : zshf σ I a b d = σ := by
  funext u j
  unfold zshf
  rw [if_neg]
  omega
theorem zshf_cons {σ σ1 : zSt} {I : List Nat} {a b : Int} {d : Nat} (h0 : 0 ≤ a) (hb : a < b) (h : ∀ u j, σ1 u j = if u ∈ I ∧ (j : Int) = a then σ u (j + d) else σ u j) (hd : 0 < d) : zshf σ1 I (a + 1) b d = zshf σ I a b d := by
  funext u j
  unfold zshf
  by_cases h1 : u ∈ I
  · by_cases h2 : a + 1 ≤ j ∧ (j : Int) < b
    · rw [if_pos ⟨h1, h2⟩, if_pos ⟨h1, by omega⟩, h, if_neg (by omega)]
    · rw [if_neg (fun q => h2 q.2), h]
      by_cases h3 : (j : Int) = a
      · rw [if_pos ⟨h1, h3⟩, if_pos ⟨h1, by omega⟩]
      · rw [if_neg (fun q => h3 q.2), if_neg (by omega)]
  · rw [if_neg (fun q => h1 q.1), if_neg (fun q => h1 q.1), h, if_neg (fun q => h1 q.1)]
theorem l_W_remove (c : Nat) (d n : Nat) (hd : (zcol c).toInt = d) (hd0 : 0 < d) (hl : (zlen c).toInt = n) (hn : zln c = n) (hn9 : n < 1000) (hd9 : d < 10) : ∀ (m : Nat) (σ : zSt) (x : Int32), 0 ≤ x.toInt → ((σ c 2) * (zcol c)).toInt + d ≤ n → (((σ c 2) * (zcol c)).toInt - x.toInt).toNat < m → kl_W_remove_26 c m σ x ∧ l_W_remove_26 c m σ x = zshf σ [c + 1] x.toInt ((σ c 2) * (zcol c)).toInt d := by
  intro m
  induction m with
  | zero => intro σ x _ _ h; omega
  | succ m ih =>
    intro σ x hx hy h
    unfold kl_W_remove_26 l_W_remove_26
    by_cases h1 : (σ c 2) * (zcol c) ≤ x
    · rw [if_pos h1]
      exact ⟨fun h2 => absurd h1 h2, (zshf_nil (zle.mp h1)).symm⟩
    · rw [if_neg h1]
      have h1' := h1
      rw [zle] at h1'
      have hxd : (x + zcol c).toInt = x.toInt + d := by
        rw [zadd (by omega) (by omega), hd]
      have h2 : ¬ x < 0 := by rw [zlt, zt0]; omega
      have h3 : ¬ zlen c ≤ x + zcol c := by rw [zle, hl, hxd]; omega
      have hi : (x + 1).toInt = x.toInt + 1 := zinc' (by omega)
      have e1 : zuf σ (c + 1) x.toNatClampNeg (σ (c + 1) (x + zcol c).toNatClampNeg) c = σ c := zuf_ne (by omega)
      obtain ⟨k1, k2⟩ := ih (zuf σ (c + 1) x.toNatClampNeg (σ (c + 1) (x + zcol c).toNatClampNeg)) (x + 1) (by omega) (by rw [e1]; exact hy) (by rw [e1]; omega)
      refine ⟨fun _ _ _ => ⟨zvin (by omega) (by rw [hn]; omega), zvin hx (by rw [hn]; omega), k1⟩, ?_⟩
      rw [if_neg h2, if_neg h3, k2, hi, e1]
      refine zshf_cons hx (by omega) (fun u j => ?_) hd0
      rw [zuf_at, zNat, zNat, hxd]
      by_cases q1 : u = c + 1
      · by_cases q2 : j = x.toInt.toNat
        · rw [if_pos q1, if_pos q2, if_pos ⟨by rw [q1]; exact List.mem_singleton.mpr rfl, by omega⟩, q1]
          congr 1
          omega
        · rw [if_pos q1, if_neg q2, if_neg (fun q => q2 (by omega))]
      · rw [if_neg q1, if_neg (fun q => q1 (List.mem_singleton.mp q.1))]
