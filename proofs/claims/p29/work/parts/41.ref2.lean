/-- the places (x, y) ahead of (a, b) -/
def pcd (a b x y : Int) : Prop := (0 ≤ x ∧ x ≤ 3) ∧ (0 ≤ y ∧ y ≤ 3) ∧ (x < a ∨ x = a ∧ y < b)
def RkI (M : Int → Int) (a b r : Int) : Prop := (r = 2 ∧ ∃ x y, (0 ≤ x ∧ x ≤ 3) ∧ (0 ≤ y ∧ y ≤ 3) ∧ mnr M x y ≠ 0) ∨ (r = 1 ∧ (∃ x, (0 ≤ x ∧ x ≤ 3) ∧ ¬ (M x = 0 ∧ M (4 + x) = 0)) ∧ ∀ x y, pcd a b x y → mnr M x y = 0) ∨ (r = 0 ∧ ∀ x y, pcd a b x y → mnr M x y = 0 ∧ M x = 0 ∧ M (4 + x) = 0)
theorem RkI.st {M : Int → Int} {a b r r' : Int} (h : RkI M a b r) (ha : 0 ≤ a ∧ a ≤ 3) (hb : 0 ≤ b ∧ b ≤ 3) (h2 : mnr M a b ≠ 0 → r' = 2) (h1 : mnr M a b = 0 → ¬ (M a = 0 ∧ M (4 + a) = 0) → r' = if 1 > r then 1 else r) (h0 : mnr M a b = 0 → (M a = 0 ∧ M (4 + a) = 0) → r' = r) : RkI M a (b + 1) r' := by
  have pc : ∀ x y, pcd a (b + 1) x y → pcd a b x y ∨ (x = a ∧ y = b) := fun x y g => by unfold pcd at *; omega
  have r012 : r = 2 ∨ r = 1 ∨ r = 0 := by rcases h with h | h | h <;> omega
  by_cases c : mnr M a b = 0
  · by_cases z : M a = 0 ∧ M (4 + a) = 0
    · have e := h0 c z
      subst e
      rcases h with h | ⟨g1, g2, g3⟩ | ⟨g1, g2⟩
      · exact Or.inl h
      · exact Or.inr (Or.inl ⟨g1, g2, fun x y hp => by
          rcases pc x y hp with hp | ⟨rfl, rfl⟩
          · exact g3 x y hp
          · exact c⟩)
      · exact Or.inr (Or.inr ⟨g1, fun x y hp => by
          rcases pc x y hp with hp | ⟨rfl, rfl⟩
          · exact g2 x y hp
          · exact ⟨c, z⟩⟩)
    · have e := h1 c z
      rcases h with ⟨g1, g2⟩ | ⟨g1, g2, g3⟩ | ⟨g1, g2⟩
      · exact Or.inl ⟨by rw [e, if_neg (by omega)]; exact g1, g2⟩
      · exact Or.inr (Or.inl ⟨by rw [e, if_neg (by omega)]; exact g1, g2, fun x y hp => by
          rcases pc x y hp with hp | ⟨rfl, rfl⟩
          · exact g3 x y hp
          · exact c⟩)
      · exact Or.inr (Or.inl ⟨by rw [e, if_pos (by omega)], ⟨a, ha, z⟩, fun x y hp => by
          rcases pc x y hp with hp | ⟨rfl, rfl⟩
          · exact (g2 x y hp).1
          · exact c⟩)
  · exact Or.inl ⟨h2 c, a, b, ha, hb, c⟩
theorem RkI.b {M : Int → Int} {a b r : Int} (h : RkI M a b r) : 0 ≤ r ∧ r ≤ 2 := by rcases h with h | h | h <;> omega
theorem RkI.r {M : Int → Int} {n r : Int} (h : RkI M 4 0 r) (hn : 0 ≤ n ∧ n ≤ 4) (hz : ∀ j, n ≤ j ∧ j < 4 → M j = 0 ∧ M (4 + j) = 0) : ∃ b, PVr M n r b := by
  have out : ∀ x y, n ≤ x ∧ x ≤ 3 → mnr M x y = 0 := fun x y hx => by
    have := hz x (by omega)
    unfold mnr
    rw [this.1, this.2]; omega
  have out2 : ∀ x y, n ≤ y ∧ y ≤ 3 → mnr M x y = 0 := fun x y hy => by
    have := hz y (by omega)
    unfold mnr
    rw [this.1, this.2]; omega
  have sy : ∀ x y, mnr M y x = -mnr M x y := fun x y => by unfold mnr; rw [Int.mul_comm (M y), Int.mul_comm (M (4 + y))]; omega
  rcases h with ⟨g1, x, y, hx, hy, hne⟩ | ⟨g1, ⟨x, hx, hne⟩, g3⟩ | ⟨g1, g2⟩
  · refine ⟨9, Or.inr (Or.inr ⟨g1, rfl, ?_⟩)⟩
    have hxn : x < n := Classical.byContradiction fun c => hne (out x y (by omega))
    have hyn : y < n := Classical.byContradiction fun c => hne (out2 x y (by omega))
    rcases Int.lt_trichotomy x y with e | e | e
    · exact ⟨x, y, hx.1, e, hyn, hne⟩
    · exact absurd (by subst e; unfold mnr; rw [Int.mul_comm (M x)]; omega) hne
    · exact ⟨y, x, hy.1, e, hxn, by rw [sy]; omega⟩
  · refine ⟨3, Or.inr (Or.inl ⟨g1, rfl, ?_, fun p q hp => g3 p q ⟨by omega, by omega, by omega⟩⟩)⟩
    have hxn : x < n := Classical.byContradiction fun c => hne (hz x (by omega))
    by_cases z : M x = 0
    · refine ⟨1, x, by decide, by decide, hx.1, hxn, ?_⟩
      rw [show 1 * 4 + x = 4 + x by omega]
      exact fun z2 => hne ⟨z, z2⟩
    · refine ⟨0, x, by decide, by decide, hx.1, hxn, ?_⟩
      rw [show 0 * 4 + x = x by omega]
      exact z
  · exact ⟨1, Or.inl ⟨g1, rfl, fun c hc => (g2 c 0 ⟨by omega, by omega, by omega⟩).2⟩⟩
