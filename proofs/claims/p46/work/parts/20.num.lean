theorem zt0 : (0 : Int32).toInt = 0 := rfl
theorem zt1 : (1 : Int32).toInt = 1 := rfl
theorem zt2 : (2 : Int32).toInt = 2 := rfl
theorem zt3 : (3 : Int32).toInt = 3 := rfl
theorem zt4 : (4 : Int32).toInt = 4 := rfl
theorem zt8 : (8 : Int32).toInt = 8 := rfl
theorem zt9 : (9 : Int32).toInt = 9 := rfl
theorem zt16 : (16 : Int32).toInt = 16 := rfl
theorem zt32 : (32 : Int32).toInt = 32 := rfl
theorem zt40 : (40 : Int32).toInt = 40 := rfl
theorem zt64 : (64 : Int32).toInt = 64 := rfl
theorem zt80 : (80 : Int32).toInt = 80 := rfl
theorem zt100 : (100 : Int32).toInt = 100 := rfl
theorem zt255 : (255 : Int32).toInt = 255 := rfl
theorem zt256 : (256 : Int32).toInt = 256 := rfl
theorem zt360 : (360 : Int32).toInt = 360 := rfl
theorem zt600 : (600 : Int32).toInt = 600 := rfl
theorem ztm1 : (-1 : Int32).toInt = -1 := rfl
theorem zlt {x y : Int32} : x < y ↔ x.toInt < y.toInt := Int32.lt_iff_toInt_lt
theorem zle {x y : Int32} : x ≤ y ↔ x.toInt ≤ y.toInt := Int32.le_iff_toInt_le
theorem zeq {x y : Int32} : x = y ↔ x.toInt = y.toInt := Int32.toInt_inj.symm
theorem zb1 (x : Int32) : -2147483648 ≤ x.toInt := Int32.le_toInt x
theorem zb2 (x : Int32) : x.toInt < 2147483648 := Int32.toInt_lt x
theorem zbm {a : Int} (h1 : -2147483648 ≤ a) (h2 : a < 2147483648) : a.bmod (2 ^ 32) = a := by
  apply Int.bmod_eq_of_le
  · have : (-(2 ^ 32 / 2 : Int)) = -2147483648 := by decide
    omega
  · have : (((2 ^ 32 : Int) + 1) / 2) = 2147483648 := by decide
    omega
theorem zadd {x y : Int32} (h1 : -2147483648 ≤ x.toInt + y.toInt) (h2 : x.toInt + y.toInt < 2147483648) : (x + y).toInt = x.toInt + y.toInt := by
  rw [Int32.toInt_add, zbm h1 h2]
theorem zsub {x y : Int32} (h1 : -2147483648 ≤ x.toInt - y.toInt) (h2 : x.toInt - y.toInt < 2147483648) : (x - y).toInt = x.toInt - y.toInt := by
  rw [Int32.toInt_sub, zbm h1 h2]
theorem zmul {x y : Int32} (h1 : -2147483648 ≤ x.toInt * y.toInt) (h2 : x.toInt * y.toInt < 2147483648) : (x * y).toInt = x.toInt * y.toInt := by
  rw [Int32.toInt_mul, zbm h1 h2]
theorem zinc {x y : Int32} (h : x < y) : (x + 1).toInt = x.toInt + 1 := by
  have h1 := zb1 x
  have h2 := zb2 y
  have h3 := zlt.mp h
  rw [zadd (by rw [zt1]; omega) (by rw [zt1]; omega), zt1]
theorem zinc' {x : Int32} (h : x.toInt < 2147483647) : (x + 1).toInt = x.toInt + 1 := by
  have h1 := zb1 x
  rw [zadd (by rw [zt1]; omega) (by rw [zt1]; omega), zt1]
theorem zdec {x : Int32} (h : -2147483648 < x.toInt) : (x + (-1)).toInt = x.toInt - 1 := by
  have h1 := zb2 x
  rw [zadd (by rw [ztm1]; omega) (by rw [ztm1]; omega), ztm1]
  omega
theorem zdec1 {x : Int32} (h : -2147483648 < x.toInt) : (x - 1).toInt = x.toInt - 1 := by
  have h1 := zb2 x
  rw [zsub (by rw [zt1]; omega) (by rw [zt1]; omega), zt1]
theorem zdiv {x y : Int32} (hx : 0 ≤ x.toInt) (hy : 0 < y.toInt) : (x / y).toInt = x.toInt / y.toInt := by
  rw [Int32.toInt_div]
  have h2 := zb2 x
  have h3 : x.toInt.tdiv y.toInt = x.toInt / y.toInt := Int.tdiv_eq_ediv_of_nonneg hx
  rw [h3]
  have h4 : 0 ≤ x.toInt / y.toInt := Int.ediv_nonneg hx (by omega)
  have h5 : x.toInt / y.toInt ≤ x.toInt := Int.ediv_le_self _ hx
  exact zbm (by omega) (by omega)
theorem zNat {x : Int32} : x.toNatClampNeg = x.toInt.toNat := rfl
theorem zvin {x : Int32} {n : Nat} (h1 : 0 ≤ x.toInt) (h2 : x.toInt < n) : vp_in x n := vp_in_iff.mpr ⟨h1, h2⟩
theorem zuf_ne {σ : zSt} {i j : Nat} {v : Int32} {a : Nat} (h : a ≠ i) : zuf σ i j v a = σ a := by
  funext b
  simp [zuf, h]
theorem zuf_eq {σ : zSt} {i j : Nat} {v : Int32} : zuf σ i j v i j = v := by simp [zuf]
theorem zuf_nj {σ : zSt} {i j : Nat} {v : Int32} {b : Nat} (h : b ≠ j) : zuf σ i j v i b = σ i b := by simp [zuf, h]
theorem zuf_at {σ : zSt} {i j : Nat} {v : Int32} {a b : Nat} : zuf σ i j v a b = if a = i then (if b = j then v else σ a b) else σ a b := rfl
theorem zuf_i {σ : zSt} {i j : Nat} {v : Int32} {b : Nat} : zuf σ i j v i b = if b = j then v else σ i b := by simp [zuf]
