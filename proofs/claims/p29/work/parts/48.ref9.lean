/-- what the basis' making changes -/
def Gfr (I I' : IE) (F F' : FE) : Prop := (∀ a k, (a ≠ 0 ∨ k ≠ 5) → I' a k = I a k) ∧ ∀ a, a ≠ 4 → F' a = F a
theorem er_b {M : Int → Int} {n b m N k c : Int} {K E : Int → Int → Int} (hb : b ≤ 18) (h : LBI M n b m N k K c E) : ∀ e, 0 ≤ e ∧ e < c → ∀ j, 0 ≤ j ∧ j < 4 → -100 ≤ E e j ∧ E e j ≤ 100 := fun e he j hj => by
  have g := (h.2.1 e he).1
  by_cases cj : j < n
  · have := g.2.1 j (by omega); omega
  · rw [g.2.2.2 j (by omega)]; decide
/-- what may be changed by the making of the basis, the kernel's list included -/
def Bfm (I I' : IE) (F F' : FE) : Prop := (∀ a k, (a ≠ 0 ∨ (k ≠ 5 ∧ k ≠ 8)) → I' a k = I a k) ∧ ∀ a, a ≠ 4 → a ≠ 5 → a ≠ 6 → F' a = F a
