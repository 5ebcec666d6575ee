theorem isFx {n : Int} {E : Int → Int → Int} {r r' : Int → Int} {c : Int} (e : ∀ j, 0 ≤ j ∧ j < n → r j = r' j) (h : isF n E r c) : isF n E r' c :=
  ⟨cf_ext (fun _ _ => rfl) e h.1, fun c' hc hx => h.2 c' hc (cf_ext (fun _ _ => rfl) (fun j hj => (e j hj).symm) hx)⟩
theorem gE_nz {M : Int → Int} {n : Int} (hB : Bas M n (gk M n, grk M n, gE M n)) : ∀ e, 0 ≤ e ∧ e < gk M n → nz n (gE M n e) := fun e he => by
  obtain ⟨_, b, _, hS⟩ := hB
  obtain ⟨j, j0, j1, _, j3⟩ := (hS.1 e he).2.2.1
  have j4 : 0 < gE M n e j := j3
  exact ⟨j, j0, j1, by omega⟩
-- the two ways to take a vector apart give the same
theorem dec_eq {M : Int → Int} {n : Int} {w : Int → Int} {len len' : Nat} {R : Nat → Int → Int} {C : Nat → Int} {seq : Int → Int} (hB : Bas M n (gk M n, grk M n, gE M n)) (h : DecF M n w len R C) (g : Dec M n w (len', seq)) : len = len' ∧ ∀ i : Nat, i < len → seq i = tval (C i) := by
  obtain ⟨h0, h1, h2, _, _⟩ := h
  obtain ⟨rest, R', C', g0, g1, g2, g3⟩ := g
  dsimp only at g1 g2 g3
  have key : ∀ i : Nat, i ≤ len → i ≤ len' → (∀ j, 0 ≤ j ∧ j < n → R i j = R' i j) ∧ ∀ q : Nat, q < i → C q = C' q := by
    intro i
    induction i with
    | zero => exact fun _ _ => ⟨fun j hj => (h0 j hj).trans (g0 j hj).symm, fun q hq => absurd hq (Nat.not_lt_zero _)⟩
    | succ i ih =>
      intro hi hi'
      obtain ⟨e1, e2⟩ := ih (by omega) (by omega)
      obtain ⟨a1, a2, a3⟩ := h1 i (by omega)
      obtain ⟨b1, b2, b3, b4⟩ := g2 i (by omega)
      have ec : C i = C' i := isF_uniq a1.1 b1.1 a2 (isFx (fun j hj => (e1 j hj).symm) b2)
      refine ⟨fun j hj => by rw [a3 j hj, b4 j hj, e1 j hj, ec], fun q hq => ?_⟩
      rcases Nat.lt_or_ge q i with hl | hl
      · exact e2 q hl
      · rw [show q = i by omega]; exact ec
  rcases Nat.lt_trichotomy len len' with hl | hl | hl
  · exfalso
    obtain ⟨e1, _⟩ := key len (Nat.le_refl _) (by omega)
    obtain ⟨b1, b2, _, _⟩ := g2 len hl
    obtain ⟨j, j0, j1, j2⟩ := cvec_nz (gE_nz hB) b1
    have := b2.1 j ⟨j0, j1⟩
    rw [← e1 j ⟨j0, j1⟩, h2 j ⟨j0, j1⟩] at this
    unfold c1 at this; omega
  · subst hl
    obtain ⟨_, e2⟩ := key len (Nat.le_refl _) (Nat.le_refl _)
    exact ⟨rfl, fun i hi => by rw [(g2 i hi).2.2.1, e2 i hi]⟩
  · exfalso
    obtain ⟨e1, _⟩ := key len' (by omega) (Nat.le_refl _)
    obtain ⟨a1, a2, _⟩ := h1 len' hl
    exact g3 (C len') ⟨a1.1, a1.2⟩ (cf_ext (fun _ _ => rfl) (fun j hj => (e1 j hj).trans (g1 j hj)) a2.1)
