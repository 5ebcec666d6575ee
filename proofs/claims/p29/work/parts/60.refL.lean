theorem ix_in {M y z : Int → Int} {n : Int} (hn : 2 ≤ n ∧ n ≤ 4) (hpos : Pos M n) (h : FibP M n y (fbm M n y, fbf M n y)) (hz : FSn M n (dt M y 0 n.toNat) (dt M y 1 n.toNat) z) : 0 ≤ ixo M n y z ∧ ixo M n y z < fbm M n y := by
  rcases ixo_ok M n y z with ⟨g1, g2, -⟩ | ⟨-, g⟩
  · exact ⟨g1, g2⟩
  · exfalso
    have f := hz.fs hn hpos
    have b := f.1
    have b0 := b 0 (by decide); have b1 := b 1 (by decide); have b2 := b 2 (by decide)
    obtain ⟨i, i0, i1, i2⟩ := (h.2.2 (cd4 (shf n z))).mpr ⟨_, f, by unfold pre3; omega, rfl⟩
    exact g i ⟨i0, i1⟩ i2
theorem dt_sub' {M u v w : Int → Int} {r : Int} : ∀ k : Nat, (∀ j : Int, 0 ≤ j ∧ j < k → u j = v j + w j) → dt M u r k = dt M v r k + dt M w r k
  | 0, _ => rfl
  | k + 1, h => by
    simp only [dt]
    rw [dt_sub' k (fun j hj => h j (by omega)), h k (by omega), Int.mul_add]
    omega
/-- both parts of an element are in its fiber -/
theorem gp_in {M : Int → Int} {n e : Int} (hn : 2 ≤ n ∧ n ≤ 4) (hb : ∀ j, 0 ≤ j ∧ j < n → -9 ≤ gE M n e j ∧ gE M n e j ≤ 9) (hk : KerF M n (gE M n e)) : FSn M n (dt M (gp M n e 1) 0 n.toNat) (dt M (gp M n e 1) 1 n.toNat) (gp M n e 1) ∧ FSn M n (dt M (gp M n e 1) 0 n.toNat) (dt M (gp M n e 1) 1 n.toNat) (gp M n e (-1)) := by
  have sp : ∀ r, dt M (gp M n e 1) r n.toNat = dt M (gp M n e (-1)) r n.toNat + dt M (gE M n e) r n.toNat := fun r => dt_sub' n.toNat (fun j _ => by
    unfold gp
    rw [Int.one_mul]
    split <;> split <;> omega)
  have s0 := sp 0
  have s1 := sp 1
  rw [hk.1] at s0
  rw [hk.2] at s1
  refine ⟨⟨fun j hj => by have := gp_b (M := M) (e := e) (s := 1) (Or.inl rfl) (hb j hj); omega, rfl, rfl⟩, fun j hj => by have := gp_b (M := M) (e := e) (s := -1) (Or.inr rfl) (hb j hj); omega, by omega, by omega⟩
theorem gp_0 {M : Int → Int} {n e s j : Int} (h : gE M n e j = 0) : gp M n e s j = 0 := by unfold gp; rw [h, Int.mul_zero]; rfl
theorem fD_iff {x : Int} : fD x = -1009 ↔ x < 0 := by unfold fD; split <;> omega
