/-- f with x at p -/
def ups (f : Int → Int) (p x : Int) : Int → Int := fun j => if j = p then x else f j
theorem dt_last {M f : Int → Int} {r x : Int} {l : Nat} : dt M (ups f l x) r (l + 1) = dt M f r l + M (r * 4 + l) * x := by
  simp only [dt]
  rw [dt_ext (w := f) l (fun j hj => by unfold ups; rw [if_neg (by omega)])]
  unfold ups
  rw [if_pos rfl]
theorem ker_last {M f : Int → Int} {n x : Int} {l : Nat} (hl : (l : Int) + 1 = n) : KerF M n (ups f l x) ↔ dt M f 0 l + M l * x = 0 ∧ dt M f 1 l + M (4 + l) * x = 0 := by
  unfold KerF
  rw [show n.toNat = l + 1 by omega, dt_last, dt_last, show (0 : Int) * 4 + l = l by omega, show (1 : Int) * 4 + l = 4 + l by omega]
/-- the last entry: r brings the vector into the kernel, or nothing within the bound does -/
def LE (M f : Int → Int) (n b : Int) (l : Nat) (r : Int) : Prop := ((-b ≤ r ∧ r ≤ b) ∧ KerF M n (ups f l r) ∧ (M l = 0 → M (4 + l) = 0 → r = 0)) ∨ (r = b + 1 ∧ ∀ x, -b ≤ x ∧ x ≤ b → ¬ KerF M n (ups f l x))
