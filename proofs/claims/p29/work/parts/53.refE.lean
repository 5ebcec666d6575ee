theorem andn0 {a b : Nat} (ha : a < 16) (hb : b < 16) : bandI a (bxorI b (-1)) = 0 ↔ a &&& b = a := by
  obtain ⟨r, hr, hle, ht⟩ := bandn_nat (a := a) (b := b) (by omega) (by omega)
  rw [hr]
  constructor
  · intro h0
    have r0 : r = 0 := by omega
    apply Nat.eq_of_testBit_eq
    intro k
    rw [Nat.testBit_and]
    cases ha' : a.testBit k with
    | false => rfl
    | true =>
      have k31 : k < 31 := by
        apply Classical.byContradiction
        intro hk
        rw [Nat.testBit_lt_two_pow (Nat.lt_of_lt_of_le ha (Nat.le_trans (show 16 ≤ 2 ^ 4 by decide) (Nat.pow_le_pow_right (by decide) (by omega))))] at ha'
        cases ha'
      have := ht k k31
      rw [r0, ha'] at this
      simp at this
      simp [this]
  · intro h
    have : r = 0 := by
      apply Nat.eq_of_testBit_eq
      intro k
      by_cases hk : k < 31
      · rw [ht k hk, ← h, Nat.testBit_and, Nat.zero_testBit]
        cases b.testBit k <;> simp
      · rw [Nat.zero_testBit, Nat.testBit_lt_two_pow (Nat.lt_of_lt_of_le (show r < 16 by omega) (Nat.le_trans (show 16 ≤ 2 ^ 4 by decide) (Nat.pow_le_pow_right (by decide) (by omega))))]
    rw [this]; rfl
