def zmx (a b : Int32) : Int32 := if a ≤ b then b else a
def zmn (a b : Int32) : Int32 := if b ≤ a then b else a
theorem zmx_t (a b : Int32) : (zmx a b).toInt = if a.toInt ≤ b.toInt then b.toInt else a.toInt := by
  unfold zmx
  by_cases h : a ≤ b
  · rw [if_pos h, if_pos (zle.mp h)]
  · rw [if_neg h, if_neg (fun q => h (zle.mpr q))]
theorem zmn_t (a b : Int32) : (zmn a b).toInt = if b.toInt ≤ a.toInt then b.toInt else a.toInt := by
  unfold zmn
  by_cases h : b ≤ a
  · rw [if_pos h, if_pos (zle.mp h)]
  · rw [if_neg h, if_neg (fun q => h (zle.mpr q))]
theorem zmx_lt (a b : Int32) : (if a < b then b else a) = zmx a b := by
  rw [zeq, zmx_t]
  by_cases h : a < b
  · rw [if_pos h, if_pos]
    rw [zlt] at h; omega
  · rw [if_neg h]
    rw [zlt] at h
    split <;> omega
theorem zmn_lt (a b : Int32) : (if a < b then a else b) = zmn a b := by
  rw [zeq, zmn_t]
  by_cases h : a < b
  · rw [if_pos h, if_neg]
    rw [zlt] at h; omega
  · rw [if_neg h]
    rw [zlt] at h
    split <;> omega
theorem zmx_comm (a b : Int32) : zmx a b = zmx b a := by
  rw [zeq, zmx_t, zmx_t]
  split <;> split <;> omega
theorem zmn_comm (a b : Int32) : zmn a b = zmn b a := by
  rw [zeq, zmn_t, zmn_t]
  split <;> split <;> omega
theorem zA0_eq {f g : Nat → Int32} (h : ∀ j, j < 600 → f j = g j) (p : Int) : zA0 f p = zA0 g p := by
  unfold zA0
  by_cases h1 : 0 ≤ p ∧ p < 600
  · rw [if_pos h1, if_pos h1, h _ (by omega)]
  · rw [if_neg h1, if_neg h1]
