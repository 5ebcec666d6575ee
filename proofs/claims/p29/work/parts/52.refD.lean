/-- the reference's reading, as far as p -/
def TRr (I : IE) (F : FE) (p : PSt) : Prop := I 0 10 = p.1 ∧ F 7 0 = p.2.1 ∧ F 7 1 = p.2.2.1 ∧ (∀ j, 0 ≤ j ∧ j < p.2.1 → F 8 j = p.2.2.2 j) ∧ ∀ j, 0 ≤ j ∧ j < p.2.2.1 → F 8 (4 + j) = p.2.2.2 (4 + j)
def Rfr (I I' : IE) (F F' : FE) : Prop := (∀ a k, (a ≠ 0 ∨ k ≠ 10) → I' a k = I a k) ∧ ∀ a, a ≠ 7 → a ≠ 8 → F' a = F a
theorem Rfr.rf {I : IE} {F : FE} : Rfr I I F F := ⟨fun _ _ _ => rfl, fun _ _ _ => rfl⟩
theorem Rfr.tr {I I1 I2 : IE} {F F1 F2 : FE} (h : Rfr I I1 F F1) (g : Rfr I1 I2 F1 F2) : Rfr I I2 F F2 := ⟨fun a k ha => (g.1 a k ha).trans (h.1 a k ha), fun a h1 h2 => (g.2 a h1 h2).trans (h.2 a h1 h2)⟩
