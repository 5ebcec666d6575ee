theorem asum_tr {n : Int} {u : Int → Int} (hn : 0 ≤ n ∧ n ≤ 4) : asum (trn n u) 4 = asum u n.toNat := by
  rw [asum_n (z := trn n u) hn (fun j hj => if_neg (by omega)), asum_trn hn.1]
theorem asum_zero {u : Int → Int} : ∀ k : Nat, (∀ j : Int, 0 ≤ j ∧ j < k → u j = 0) → asum u k = 0
  | 0, _ => rfl
  | k + 1, h => by
    simp only [asum]
    rw [asum_zero k (fun j hj => h j (by omega)), h k (by omega)]
    rfl
theorem nz_cf {n : Int} {u v : Int → Int} (h : nz n u) (g : cf n u v) : nz n v := by
  obtain ⟨j, j0, j1, j2⟩ := h
  have := g j ⟨j0, j1⟩
  exact ⟨j, j0, j1, by unfold c1 at this; omega⟩
theorem cvec_nz {M : Int → Int} {n c : Int} (hk : ∀ e, 0 ≤ e ∧ e < gk M n → nz n (gE M n e)) (hc : 0 ≤ c ∧ c < 2 * gk M n) : nz n (cvec (gE M n) c) := by
  obtain ⟨j, j0, j1, j2⟩ := hk (c / 2) (by omega)
  refine ⟨j, j0, j1, ?_⟩
  unfold cvec
  split
  · exact j2
  · unfold ng; omega
theorem isF_ext {n : Int} {E : Int → Int → Int} {r r' : Int → Int} {c : Int} (e : ∀ j, 0 ≤ j ∧ j < n → r j = r' j) (h : isF n E r c) : isF n E r' c :=
  ⟨cf_ext (fun _ _ => rfl) e h.1, fun c' hc' g => h.2 c' hc' (cf_ext (fun _ _ => rfl) (fun j hj => (e j hj).symm) g)⟩
theorem tval_0 {c : Int} (h : 0 ≤ c) : tval c ≠ 0 := by unfold tval; split <;> omega
def dcv (x : Int) (len : Nat) (C : Nat → Int) : Int := if x < 0 then (len : Int) else if x < len then tval (C x.toNat) else 0
