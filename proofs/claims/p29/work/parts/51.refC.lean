theorem ons_16 {g : Nat → Int} {k : Nat} (hk : k ≤ 16) (h : ∀ i, k ≤ i → g i = 0) : ons g 16 = ons g k := by
  have key : ∀ j, k + j ≤ 16 → ons g (k + j) = ons g k := by
    intro j
    induction j with
    | zero => intro _; rfl
    | succ j ih =>
      intro hj
      show ons g (k + j) + g (k + j) = _
      rw [ih (by omega), h _ (by omega)]
      omega
  have := key (16 - k) (by omega)
  rw [show k + (16 - k) = 16 by omega] at this
  exact this
