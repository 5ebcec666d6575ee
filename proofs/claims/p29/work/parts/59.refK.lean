/-- what may be changed without the state's being changed -/
def Ofr (I I' : IE) (F F' : FE) : Prop := (∀ a k, (a ≠ 0 ∨ (k ≠ 14 ∧ k ≠ 19)) → I' a k = I a k) ∧ ∀ a, a ≤ 8 → F' a = F a
theorem Ofr.tr {I I1 I2 : IE} {F F1 F2 : FE} (h : Ofr I I1 F F1) (g : Ofr I1 I2 F1 F2) : Ofr I I2 F F2 := ⟨fun a k ha => (g.1 a k ha).trans (h.1 a k ha), fun a h1 => (g.2 a h1).trans (h.2 a h1)⟩
theorem Yfr.O {I I' : IE} {F F' : FE} (h : Yfr I I' F F') : Ofr I I' F F' := ⟨fun a k ha => h.1 a k (by omega), fun a h1 => h.2 a (by omega) (by omega)⟩
theorem Sfr.O {I I' : IE} {F F' : FE} (h : Sfr I I' F F') : Ofr I I' F F' := ⟨fun a k ha => h.1 a k (by omega), fun a h1 => h.2 a (by omega) (by omega) (by omega)⟩
/-- rooms of all the fibers that are laid -/
def CapPR : Prop := ∀ (M y : Int → Int) (n : Int), (2 ≤ n ∧ n ≤ 4) → (∀ j, 0 ≤ M j ∧ M j ≤ 3) → Pos M n → (∀ j, 0 ≤ y j ∧ y j ≤ 5) → CapR M n (dt M y 0 n.toNat) (dt M y 1 n.toNat)
def CapER : Prop := ∀ (M : Int → Int) (n e : Int), (2 ≤ n ∧ n ≤ 4) → (∀ j, 0 ≤ M j ∧ M j ≤ 3) → Pos M n → Bas M n (gk M n, grk M n, gE M n) → 0 ≤ e ∧ e < gk M n → CapR M n (dt M (gp M n e 1) 0 n.toNat) (dt M (gp M n e 1) 1 n.toNat)
