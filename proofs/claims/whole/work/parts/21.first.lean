/-! the first place from a on that has P, or b -/
def zFst (P : Int → Prop) (a b r : Int) : Prop := a ≤ r ∧ (r ≤ b ∨ r = a) ∧ (∀ p, a ≤ p → p < r → p < b ∧ ¬ P p) ∧ (r < b → P r)
theorem zFst_here {P : Int → Prop} {a b : Int} (h : b ≤ a ∨ P a) : zFst P a b a :=
  ⟨Int.le_refl _, Or.inr rfl, fun p h1 h2 => absurd h1 (by omega), fun h1 => h.elim (fun h2 => absurd h1 (by omega)) id⟩
theorem zFst_step {P : Int → Prop} {a b r : Int} (h1 : a < b) (h2 : ¬ P a) (h : zFst P (a + 1) b r) : zFst P a b r := by
  obtain ⟨g1, g2, g3, g4⟩ := h
  refine ⟨by omega, by omega, fun p h3 h4 => ?_, g4⟩
  by_cases hp : p = a
  · subst hp; exact ⟨h1, h2⟩
  · exact g3 p (by omega) h4
theorem zFst_uniq {P : Int → Prop} {a b r r' : Int} (h : zFst P a b r) (h' : zFst P a b r') : r = r' := by
  obtain ⟨g1, g2, g3, g4⟩ := h
  obtain ⟨e1, e2, e3, e4⟩ := h'
  by_cases h1 : r < r'
  · obtain ⟨q1, q2⟩ := e3 r g1 h1
    exact absurd (g4 q1) q2
  · by_cases h2 : r' < r
    · obtain ⟨q1, q2⟩ := g3 r' e1 h2
      exact absurd (e4 q1) q2
    · omega
theorem zFst_iff {P P' : Int → Prop} {a b r : Int} (h : zFst P a b r) (hp : ∀ p, a ≤ p → p < b → (P p ↔ P' p)) : zFst P' a b r := by
  obtain ⟨g1, g2, g3, g4⟩ := h
  exact ⟨g1, g2, fun p h1 h2 => ⟨(g3 p h1 h2).1, fun h3 => (g3 p h1 h2).2 ((hp p h1 (g3 p h1 h2).1).mpr h3)⟩, fun h1 => (hp r g1 h1).mp (g4 h1)⟩
/-- an array of 600, 0 outside -/
def zA0 (f : Nat → Int32) (p : Int) : Int32 := if 0 ≤ p ∧ p < 600 then f p.toNat else 0
theorem zA0_in {f : Nat → Int32} {p : Int} (h1 : 0 ≤ p) (h2 : p < 600) : zA0 f p = f p.toNat := if_pos ⟨h1, h2⟩
theorem zA0_out {f : Nat → Int32} {p : Int} (h : p < 0 ∨ 600 ≤ p) : zA0 f p = 0 := if_neg (by omega)
theorem k_at (c : Nat) (σ : zSt) (x : Int32) : k_P_at c σ x := by
  intro h1 h2
  rw [zlt, zt0] at h1
  rw [zle, zt600] at h2
  exact zvin (by omega) (by omega)
theorem f_at (c : Nat) (σ : zSt) (x : Int32) : f_P_at c σ x = zA0 (σ (c + 1)) x.toInt := by
  unfold f_P_at zA0
  by_cases h1 : x < 0
  · rw [if_pos h1, if_neg]
    rw [zlt, zt0] at h1
    omega
  · rw [if_neg h1]
    by_cases h2 : 600 ≤ x
    · rw [if_pos h2, if_neg]
      rw [zle, zt600] at h2
      omega
    · rw [if_neg h2, if_pos]
      · rfl
      · rw [zlt, zt0] at h1
        rw [zle, zt600] at h2
        omega
theorem l_firstEmpty (c : Nat) (σ : zSt) (y : Int32) : ∀ (m : Nat) (x : Int32), (y.toInt - x.toInt).toNat < m → kl_P_firstEmpty_2 c σ y m x ∧ zFst (fun p => zA0 (σ (c + 1)) p = 0) x.toInt y.toInt (l_P_firstEmpty_2 c σ y m x).toInt := by
  intro m
  induction m with
  | zero => intro x h; omega
  | succ m ih =>
    intro x h
    unfold kl_P_firstEmpty_2 l_P_firstEmpty_2
    by_cases h1 : y ≤ x
    · rw [if_pos h1]
      exact ⟨fun h2 => absurd h1 h2, zFst_here (Or.inl (zle.mp h1))⟩
    · rw [if_neg h1]
      have h1' := h1
      rw [zle] at h1'
      have hi : (x + 1).toInt = x.toInt + 1 := zinc (y := y) (zlt.mpr (by omega))
      obtain ⟨k1, k2⟩ := ih (x + 1) (by omega)
      dsimp only [zlet]
      refine ⟨fun _ => ⟨k_at c σ x, fun r hr hn => k1⟩, ?_⟩
      by_cases h2 : f_P_at c σ x = 0
      · rw [if_pos h2]
        exact zFst_here (Or.inr (by rw [f_at] at h2; exact h2))
      · rw [if_neg h2]
        refine zFst_step (by omega) (by rw [f_at] at h2; exact h2) ?_
        rw [← hi]; exact k2
theorem firstEmpty (c : Nat) (σ : zSt) (x y : Int32) : k_P_firstEmpty c σ x y ∧ zFst (fun p => zA0 (σ (c + 1)) p = 0) x.toInt y.toInt (f_P_firstEmpty c σ x y).toInt :=
  l_firstEmpty c σ y _ x (by omega)
theorem l_firstFilled (c : Nat) (σ : zSt) (y : Int32) : ∀ (m : Nat) (x : Int32), (y.toInt - x.toInt).toNat < m → kl_P_firstFilled_2 c σ y m x ∧ zFst (fun p => ¬ zA0 (σ (c + 1)) p = 0) x.toInt y.toInt (l_P_firstFilled_2 c σ y m x).toInt := by
  intro m
  induction m with
  | zero => intro x h; omega
  | succ m ih =>
    intro x h
    unfold kl_P_firstFilled_2 l_P_firstFilled_2
    by_cases h1 : y ≤ x
    · rw [if_pos h1]
      exact ⟨fun h2 => absurd h1 h2, zFst_here (Or.inl (zle.mp h1))⟩
    · rw [if_neg h1]
      have h1' := h1
      rw [zle] at h1'
      have hi : (x + 1).toInt = x.toInt + 1 := zinc (y := y) (zlt.mpr (by omega))
      obtain ⟨k1, k2⟩ := ih (x + 1) (by omega)
      dsimp only [zlet]
      refine ⟨fun _ => ⟨k_at c σ x, fun r hr hn => k1⟩, ?_⟩
      by_cases h2 : f_P_at c σ x = 0
      · rw [if_pos h2]
        refine zFst_step (by omega) (by rw [f_at] at h2; exact fun h3 => h3 h2) ?_
        rw [← hi]; exact k2
      · rw [if_neg h2]
        exact zFst_here (Or.inr (by rw [f_at] at h2; exact h2))
theorem firstFilled (c : Nat) (σ : zSt) (x y : Int32) : k_P_firstFilled c σ x y ∧ zFst (fun p => ¬ zA0 (σ (c + 1)) p = 0) x.toInt y.toInt (f_P_firstFilled c σ x y).toInt :=
  l_firstFilled c σ y _ x (by omega)
/-! the same of the reference -/
theorem l_markOr (τ : zSt) (y : Int32) (hy : y.toInt ≤ 600) : ∀ (m : Nat) (x : Int32), 0 ≤ x.toInt → (y.toInt - x.toInt).toNat < m → kl_M_markOr_2 τ y m x ∧ zFst (fun p => ¬ zA0 (τ 15) p = 0) x.toInt y.toInt (l_M_markOr_2 τ y m x).toInt := by
  intro m
  induction m with
  | zero => intro x _ h; omega
  | succ m ih =>
    intro x hx h
    unfold kl_M_markOr_2 l_M_markOr_2
    by_cases h1 : y ≤ x
    · rw [if_pos h1]
      exact ⟨fun h2 => absurd h1 h2, zFst_here (Or.inl (zle.mp h1))⟩
    · rw [if_neg h1]
      have h1' := h1
      rw [zle] at h1'
      have hi : (x + 1).toInt = x.toInt + 1 := zinc (y := y) (zlt.mpr (by omega))
      obtain ⟨k1, k2⟩ := ih (x + 1) (by omega) (by omega)
      have ha : zA0 (τ 15) x.toInt = τ 15 x.toNatClampNeg := zA0_in hx (by omega)
      refine ⟨fun _ => ⟨zvin hx (by omega), fun hn => k1⟩, ?_⟩
      by_cases h2 : τ 15 x.toNatClampNeg = 0
      · rw [if_pos h2]
        refine zFst_step (by omega) (by rw [ha]; exact fun h3 => h3 h2) ?_
        rw [← hi]; exact k2
      · rw [if_neg h2]
        exact zFst_here (Or.inr (by rw [ha]; exact h2))
theorem markOr (τ : zSt) (x y : Int32) (hx : 0 ≤ x.toInt) (hy : y.toInt ≤ 600) : k_M_markOr τ x y ∧ zFst (fun p => ¬ zA0 (τ 15) p = 0) x.toInt y.toInt (f_M_markOr τ x y).toInt :=
  l_markOr τ y hy _ x hx (by omega)
theorem l_runEnd (τ : zSt) : ∀ (m : Nat) (x : Int32), 0 ≤ x.toInt → ((600 : Int32).toInt - x.toInt).toNat < m → kl_M_runEnd_2 τ m x ∧ zFst (fun p => zA0 (τ 16) p = 0) x.toInt 600 (l_M_runEnd_2 τ m x).toInt := by
  intro m
  rw [zt600]
  induction m with
  | zero => intro x _ h; omega
  | succ m ih =>
    intro x hx h
    unfold kl_M_runEnd_2 l_M_runEnd_2
    by_cases h1 : 600 ≤ x
    · rw [if_pos h1]
      exact ⟨fun h2 => absurd h1 h2, zFst_here (Or.inl (by rw [zle, zt600] at h1; exact h1))⟩
    · rw [if_neg h1]
      have h1' := h1
      rw [zle, zt600] at h1'
      have hi : (x + 1).toInt = x.toInt + 1 := zinc' (by omega)
      obtain ⟨k1, k2⟩ := ih (x + 1) (by omega) (by omega)
      have ha : zA0 (τ 16) x.toInt = τ 16 x.toNatClampNeg := zA0_in hx (by omega)
      refine ⟨fun _ => ⟨zvin hx (by omega), fun hn => k1⟩, ?_⟩
      by_cases h2 : τ 16 x.toNatClampNeg = 0
      · rw [if_pos h2]
        exact zFst_here (Or.inr (by rw [ha]; exact h2))
      · rw [if_neg h2]
        refine zFst_step (by omega) (by rw [ha]; exact h2) ?_
        rw [← hi]; exact k2
theorem runEnd (τ : zSt) (x : Int32) (hx : 0 ≤ x.toInt) : k_M_runEnd τ x ∧ zFst (fun p => zA0 (τ 16) p = 0) x.toInt 600 (f_M_runEnd τ x).toInt :=
  l_runEnd τ _ x hx (by omega)
theorem l_hole (τ : zSt) (hy : (τ 13 3).toInt ≤ 600) : ∀ (m : Nat) (x : Int32), 0 ≤ x.toInt → ((τ 13 3).toInt - x.toInt).toNat < m → kl_M_hole_12 τ m x ∧ zFst (fun p => zA0 (τ 15) p = 0) x.toInt (τ 13 3).toInt (l_M_hole_12 τ m x).toInt := by
  intro m
  induction m with
  | zero => intro x _ h; omega
  | succ m ih =>
    intro x hx h
    unfold kl_M_hole_12 l_M_hole_12
    by_cases h1 : τ 13 3 ≤ x
    · rw [if_pos h1]
      exact ⟨fun h2 => absurd h1 h2, zFst_here (Or.inl (zle.mp h1))⟩
    · rw [if_neg h1]
      have h1' := h1
      rw [zle] at h1'
      have hi : (x + 1).toInt = x.toInt + 1 := zinc' (by omega)
      obtain ⟨k1, k2⟩ := ih (x + 1) (by omega) (by omega)
      have ha : zA0 (τ 15) x.toInt = τ 15 x.toNatClampNeg := zA0_in hx (by omega)
      refine ⟨fun _ => ⟨zvin hx (by omega), fun hn => k1⟩, ?_⟩
      by_cases h2 : τ 15 x.toNatClampNeg = 0
      · rw [if_pos h2]
        exact zFst_here (Or.inr (by rw [ha]; exact h2))
      · rw [if_neg h2]
        refine zFst_step (by omega) (by rw [ha]; exact h2) ?_
        rw [← hi]; exact k2
/-- N goes on past marks -/
theorem l_send73 : ∀ (m : Nat) (τ : zSt), 0 ≤ (τ 13 3).toInt → (τ 13 5).toInt ≤ 600 → ((τ 13 5).toInt - (τ 13 3).toInt).toNat < m → kl_M_send_73 m τ ∧ ∃ v : Int32, l_M_send_73 m τ = zuf τ 13 3 v ∧ zFst (fun p => zA0 (τ 15) p = 0) (τ 13 3).toInt (τ 13 5).toInt v.toInt := by
  intro m
  induction m with
  | zero => intro τ _ _ h; omega
  | succ m ih =>
    intro τ hx hy h
    unfold kl_M_send_73 l_M_send_73
    have hself : zuf τ 13 3 (τ 13 3) = τ := by
      funext a b
      unfold zuf
      by_cases h1 : a = 13
      · by_cases h2 : b = 3
        · simp [h1, h2]
        · simp [h1, h2]
      · simp [h1]
    by_cases h1 : τ 13 5 ≤ τ 13 3
    · rw [if_pos h1]
      exact ⟨fun h2 => absurd h1 h2, τ 13 3, hself.symm, zFst_here (Or.inl (zle.mp h1))⟩
    · rw [if_neg h1]
      have h1' := h1
      rw [zle] at h1'
      have hi : (τ 13 3 + 1).toInt = (τ 13 3).toInt + 1 := zinc' (by omega)
      have e1 : zuf τ 13 3 (τ 13 3 + 1) 13 3 = τ 13 3 + 1 := zuf_eq
      have e2 : zuf τ 13 3 (τ 13 3 + 1) 13 5 = τ 13 5 := zuf_nj (by decide)
      have e3 : zuf τ 13 3 (τ 13 3 + 1) 15 = τ 15 := zuf_ne (by decide)
      obtain ⟨k1, v, k2, k3⟩ := ih (zuf τ 13 3 (τ 13 3 + 1)) (by rw [e1]; omega) (by rw [e2]; exact hy) (by rw [e1, e2]; omega)
      rw [e1, e2, e3] at k3
      have ha : zA0 (τ 15) (τ 13 3).toInt = τ 15 (τ 13 3).toNatClampNeg := zA0_in hx (by omega)
      refine ⟨fun _ => ⟨zvin hx (by omega), fun hn => k1⟩, ?_⟩
      by_cases h2 : τ 15 (τ 13 3).toNatClampNeg = 0
      · rw [if_pos h2]
        exact ⟨τ 13 3, hself.symm, zFst_here (Or.inr (by rw [ha]; exact h2))⟩
      · rw [if_neg h2]
        refine ⟨v, ?_, zFst_step (by omega) (by rw [ha]; exact h2) (by rw [← hi]; exact k3)⟩
        rw [k2]
        funext a b
        unfold zuf
        by_cases q1 : a = 13
        · by_cases q2 : b = 3
          · simp [q1, q2]
          · simp [q1, q2]
        · simp [q1]
