/-- each element has its parts joined -/
def MkA (M : Int → Int) (n : Int) (A : Nat → Int) : Prop := ∀ e : Nat, (e : Int) < gk M n → Jn M n A e
/-- the switches behind the elements below k, from k - 1 down, all elements being looked at each time -/
noncomputable def rdR (M : Int → Int) (n : Int) : Nat → (Nat → Int) → Nat → Int
  | 0, A => A
  | k + 1, A => rdR M n k (@ite _ (A k = 1 ∧ MkA M n (swA A k 0)) (Classical.propDecidable _) (swA A k 0) A)
