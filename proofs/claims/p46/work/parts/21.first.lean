def zFst (P : Int → Prop) (a b r : Int) : Prop := a ≤ r ∧ (r ≤ b ∨ r = a) ∧ (∀ p, a ≤ p → p < r → p < b ∧ ¬ P p) ∧ (r < b → P r)
theorem zFst_here {P : Int → Prop} {a b : Int} (h : b ≤ a ∨ P a) : zFst P a b a :=
  ⟨Int.le_refl _, Or.inr rfl, fun p h1 h2 => absurd h1 (by omega), fun h1 => h.elim (fun h2 => absurd h1 (by omega)) id⟩
theorem zFst_step {P : Int → Prop} {a b r : Int} (h1 : a < b) (h2 : ¬ P a) (h : zFst P (a + 1) b r) : zFst P a b r := by
  obtain ⟨g1, g2, g3, g4⟩ := h
  refine ⟨by omega, by omega, fun p h3 h4 => ?_, g4⟩
  by_cases hp : p = a
  · subst hp; exact ⟨h1, h2⟩
  · exact g3 p (by omega) h4
theorem zFst_uniq {P : Int → Prop} {a b r r' : Int} (h : zFst P a b r) (h' : zFst P a b r') : r = r' := by
  obtain ⟨g1, g2, g3, g4⟩ := h
  obtain ⟨e1, e2, e3, e4⟩ := h'
  by_cases h1 : r < r'
  · obtain ⟨q1, q2⟩ := e3 r g1 h1
    exact absurd (g4 q1) q2
  · by_cases h2 : r' < r
    · obtain ⟨q1, q2⟩ := g3 r' e1 h2
      exact absurd (e4 q1) q2
    · omega
theorem zFst_iff {P P' : Int → Prop} {a b r : Int} (h : zFst P a b r) (hp : ∀ p, a ≤ p → p < b → (P p ↔ P' p)) : zFst P' a b r := by
  obtain ⟨g1, g2, g3, g4⟩ := h
  exact ⟨g1, g2, fun p h1 h2 => ⟨(g3 p h1 h2).1, fun h3 => (g3 p h1 h2).2 ((hp p h1 (g3 p h1 h2).1).mpr h3)⟩, fun h1 => (hp r g1 h1).mp (g4 h1)⟩
/-- an array of 600, 0 outside -/
def zA0 (f : Nat → Int32) (p : Int) : Int32 := if 0 ≤ p ∧ p < 600 then f p.toNat else 0
theorem zA0_in {f : Nat → Int32} {p : Int} (h1 : 0 ≤ p) (h2 : p < 600) : zA0 f p = f p.toNat := if_pos ⟨h1, h2⟩
theorem zA0_out {f : Nat → Int32} {p : Int} (h : p < 0 ∨ 600 ≤ p) : zA0 f p = 0 := if_neg (by omega)
theorem k_at (c : Nat) (σ : zSt) (x : Int32) : k_P_at c σ x := by
  intro h1 h2
  rw [zlt, zt0] at h1
  rw [zle, zt600] at h2
  exact zvin (by omega) (by omega)
theorem f_at (c : Nat) (σ : zSt) (x : Int32) : f_P_at c σ x = zA0 (σ (c + 1)) x.toInt := by
  unfold f_P_at zA0
  by_cases h1 : x < 0
  · rw [if_pos h1, if_neg]
    rw [zlt, zt0] at h1
    omega
  · rw [if_neg h1]
    by_cases h2 : 600 ≤ x
    · rw [if_pos h2, if_neg]
      rw [zle, zt600] at h2
      omega
    · rw [if_neg h2, if_pos]
      · rfl
      · rw [zlt, zt0] at h1
        rw [zle, zt600] at h2
        omega
theorem l_firstEmpty (c : Nat) (σ : zSt) (y : Int32) : ∀ (m : Nat) (x : Int32), (y.toInt - x.toInt).toNat < m → kl_P_firstEmpty_2 c σ y m x ∧ zFst (fun p => zA0 (σ (c + 1)) p = 0) x.toInt y.toInt (l_P_firstEmpty_2 c σ y m x).toInt := by
  intro m
  induction m with
  | zero => intro x h; omega
  | succ m ih =>
    intro x h
    unfold kl_P_firstEmpty_2 l_P_firstEmpty_2
    by_cases h1 : y ≤ x
    · rw [if_pos h1]
      exact ⟨fun h2 => absurd h1 h2, zFst_here (Or.inl (zle.mp h1))⟩
    · rw [if_neg h1]
      have h1' := h1
      rw [zle] at h1'
      have hi : (x + 1).toInt = x.toInt + 1 := zinc (y := y) (zlt.mpr (by omega))
      obtain ⟨k1, k2⟩ := ih (x + 1) (by omega)
      dsimp only [zlet]
      refine ⟨fun _ => ⟨k_at c σ x, fun r hr hn => k1⟩, ?_⟩
      by_cases h2 : f_P_at c σ x = 0
      · rw [if_pos h2]
        exact zFst_here (Or.inr (by rw [f_at] at h2; exact h2))
      · rw [if_neg h2]
        refine zFst_step (by omega) (by rw [f_at] at h2; exact h2) ?_
        rw [← hi]; exact k2
theorem firstEmpty (c : Nat) (σ : zSt) (x y : Int32) : k_P_firstEmpty c σ x y ∧ zFst (fun p => zA0 (σ (c + 1)) p = 0) x.toInt y.toInt (f_P_firstEmpty c σ x y).toInt :=
  l_firstEmpty c σ y _ x (by omega)
theorem l_firstFilled (c : Nat) (σ : zSt) (y : Int32) : ∀ (m : Nat) (x : Int32), (y.toInt - x.toInt).toNat < m → kl_P_firstFilled_2 c σ y m x ∧ zFst (fun p => ¬ zA0 (σ (c + 1)) p = 0) x.toInt y.toInt (l_P_firstFilled_2 c σ y m x).toInt := by
  intro m
  induction m with
  | zero => intro x h; omega
  | succ m ih =>
    intro x h
    unfold kl_P_firstFilled_2 l_P_firstFilled_2
    by_cases h1 : y ≤ x
    · rw [if_pos h1]
      exact ⟨fun h2 => absurd h1 h2, zFst_here (Or.inl (zle.mp h1))⟩
    · rw [if_neg h1]
      have h1' := h1
      rw [zle] at h1'
      have hi : (x + 1).toInt = x.toInt + 1 := zinc (y := y) (zlt.mpr (by omega))
      obtain ⟨k1, k2⟩ := ih (x + 1) (by omega)
      dsimp only [zlet]
      refine ⟨fun _ => ⟨k_at c σ x, fun r hr hn => k1⟩, ?_⟩
      by_cases h2 : f_P_at c σ x = 0
      · rw [if_pos h2]
        refine zFst_step (by omega) (by rw [f_at] at h2; exact fun h3 => h3 h2) ?_
        rw [← hi]; exact k2
      · rw [if_neg h2]
        exact zFst_here (Or.inr (by rw [f_at] at h2; exact h2))
theorem firstFilled (c : Nat) (σ : zSt) (x y : Int32) : k_P_firstFilled c σ x y ∧ zFst (fun p => ¬ zA0 (σ (c + 1)) p = 0) x.toInt y.toInt (f_P_firstFilled c σ x y).toInt :=
  l_firstFilled c σ y _ x (by omega)
