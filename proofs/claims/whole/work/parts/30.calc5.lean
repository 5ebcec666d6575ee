theorem Bsp.nz {M : Int → Int} {n b k : Int} {E : Int → Int → Int} (h : Bsp M n b k E) : ∀ e, 0 ≤ e ∧ e < k → ∃ j, 0 ≤ j ∧ j < n ∧ E e j ≠ 0 := fun e he => by
  obtain ⟨i, i0, i1, i2, i3⟩ := (h.1 e he).2.2.1
  exact ⟨i, i0, i1, by omega⟩
theorem CI.D {S : Sx} {I I' : IE} {F F' : FE} (h : CI S I F) (hf : Dfr I I' F F') : CI S I' F' := by
  obtain ⟨hS, hH, hT, hB, hP⟩ := h
  exact ⟨hS.fr (fun k => hf.1 1 k (by omega)) (fun a ha => hf.2 a (by omega) (by omega)), hH.fr (fun a k ha => hf.1 a k (by omega)) (fun a ha => hf.2 a (by omega) (by omega)), hT.fr (hf.1 39 0 (by omega)) (hf.2 41 (by decide) (by decide)), hB.fr (fun k => hf.1 42 k (by omega)) (hf.2 43 (by decide) (by decide)), hP.fr (fun k => hf.1 50 k (by omega)) (hf.1 0 9 (by omega)) (hf.2 53 (by decide) (by decide))⟩
/-- a whole decomposition of w -/
def Dec (M : Int → Int) (n : Int) (w : Int → Int) (p : Nat × (Int → Int)) : Prop := ∃ rest, DSt n (gE M n) (gk M n) w (2 * gk M n) p.1 rest p.2
/-- the last saved state again -/
def pop (S : Sx) : Sx := (S.2.1.2 (S.2.1.1 - 1), (S.2.1.1 - 1, S.2.1.2), S.2.2)
