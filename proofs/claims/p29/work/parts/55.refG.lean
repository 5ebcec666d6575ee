/-- row i of the fiber -/
def fr (F : FE) (i : Int) : Int → Int := fun j => F 9 (4 * i + j)
def P7 (k : Nat) : Int := (128 : Int) ^ (3 - k)
theorem P7_pos (k : Nat) : 0 < P7 k := Int.pow_pos (by decide)
theorem P7_s {k : Nat} (hk : k < 3) : P7 k = 128 * P7 (k + 1) := by
  unfold P7
  rw [show 3 - k = 3 - (k + 1) + 1 by omega, Int.pow_succ, Int.mul_comm]
/-- falls with every turn -/
def mu (Y : Int → Int) : Nat → Int
  | 0 => (110 - Y 0) * P7 0
  | k + 1 => mu Y k + (110 - Y ((k + 1 : Nat) : Int)) * P7 (k + 1)
theorem mu_ext {Y Z : Int → Int} : ∀ k : Nat, (∀ j : Int, 0 ≤ j ∧ j < (k : Int) + 1 → Y j = Z j) → mu Y k = mu Z k
  | 0, h => by simp only [mu]; rw [h 0 (by omega)]
  | k + 1, h => by
    simp only [mu]
    rw [mu_ext k (fun j hj => h j (by omega)), h _ (by omega)]
theorem mu_0 {Y : Int → Int} : ∀ k : Nat, (∀ j : Int, 0 ≤ j ∧ j < (k : Int) + 1 → Y j ≤ 110) → 0 ≤ mu Y k
  | 0, h => Int.mul_nonneg (by have := h 0 (by omega); omega) (Int.le_of_lt (P7_pos 0))
  | k + 1, h => by
    have h1 := mu_0 k (fun j hj => h j (by omega))
    have h2 := Int.mul_nonneg (show 0 ≤ 110 - Y ((k + 1 : Nat) : Int) by have := h ((k + 1 : Nat) : Int) (by omega); omega) (Int.le_of_lt (P7_pos (k + 1)))
    simp only [mu]
    omega
theorem mu_inc {Y Y' : Int → Int} {k : Nat} (e : ∀ j : Int, 0 ≤ j ∧ j < k → Y' j = Y j) (ek : Y' k = Y k + 1) : mu Y' k < mu Y k := by
  have p := P7_pos k
  cases k with
  | zero =>
    have ek' : Y' 0 = Y 0 + 1 := ek
    simp only [mu]
    rw [ek', show 110 - Y 0 = (110 - (Y 0 + 1)) + 1 by omega, Int.add_mul]
    omega
  | succ k =>
    simp only [mu]
    rw [mu_ext k (fun j hj => e j (by omega)), ek, show 110 - Y ((k + 1 : Nat) : Int) = (110 - (Y ((k + 1 : Nat) : Int) + 1)) + 1 by omega, Int.add_mul]
    omega
theorem mu_push {Y Y' : Int → Int} {k : Nat} (hk : k < 3) (e : ∀ j : Int, 0 ≤ j ∧ j < k → Y' j = Y j) (ek : Y' k = Y k + 1) (ek2 : Y' ((k + 1 : Nat) : Int) = -1) : mu Y' (k + 1) < mu Y k := by
  have p := P7_pos (k + 1)
  have p2 := P7_s hk
  have h1 : mu Y' k + P7 k = mu Y k := by
    cases k with
    | zero =>
      have ek' : Y' 0 = Y 0 + 1 := ek
      simp only [mu]
      rw [ek', show 110 - Y 0 = (110 - (Y 0 + 1)) + 1 by omega, Int.add_mul]
      omega
    | succ k =>
      simp only [mu]
      rw [mu_ext k (fun j hj => e j (by omega)), ek, show 110 - Y ((k + 1 : Nat) : Int) = (110 - (Y ((k + 1 : Nat) : Int) + 1)) + 1 by omega, Int.add_mul]
      omega
  show mu Y' k + (110 - Y' ((k + 1 : Nat) : Int)) * P7 (k + 1) < mu Y k
  rw [ek2]
  omega
/-- what the laying of a fiber changes -/
def Yfr (I I' : IE) (F F' : FE) : Prop := (∀ a k, (a ≠ 0 ∨ k ≠ 14) → I' a k = I a k) ∧ ∀ a, a ≠ 9 → a ≠ 11 → F' a = F a
