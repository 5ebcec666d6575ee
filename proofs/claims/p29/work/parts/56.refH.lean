/-- a fiber stands in the reference -/
def FibR (M : Int → Int) (n : Int) (y : Int → Int) (I : IE) (F : FE) : Prop := I 0 14 = fbm M n y ∧ (0 ≤ fbm M n y ∧ fbm M n y ≤ 2048) ∧ (∀ i, 0 ≤ i ∧ i < fbm M n y → ∀ j, 0 ≤ j ∧ j < 4 → fr F i j = fy M n y i j) ∧ FibP M n y (fbm M n y, fbf M n y)
