def ons (g : Nat → Int) : Nat → Int
  | 0 => 0
  | k + 1 => ons g k + g k
theorem ons_bsum {x : Int} {g : Nat → Int} : ∀ k : Nat, (∀ i, i < k → bt x i = g i) → bsum x k = ons g k
  | 0, _ => rfl
  | k + 1, h => by
    simp only [bsum, ons]
    rw [ons_bsum k (fun i hi => h i (by omega)), h k (by omega)]
def wA (S : Sx) (e : Nat) (v : Int) : Sx := ((gR S.1, gC S.1, gM S.1, gZ S.1, gY S.1, fun k => if k = e then v else gA S.1 k), S.2)
theorem CI.wA {S : Sx} {I : IE} {F : FE} {e : Nat} {v x : Int} (h : CI S I F) (hv : v = 0 ∨ v = 1) (hx : 0 ≤ x ∧ x < 65536) (hb : ∀ k, k < 16 → bt x k = if k = e then v else bt (I 1 5) k) : CI (wA S e v) (upI I 1 5 x) F := by
  obtain ⟨⟨⟨v1, v2, v3, v4, v5, v6, v7, v8, v9⟩, s1, s2, s3, s4, s5, s6, s7⟩, hH, hT, hB, hP⟩ := h
  have u : ∀ a k, (a ≠ 1 ∨ k ≠ 5) → upI I 1 5 x a k = I a k := fun a k ha => by simp only [upI]; rw [if_neg (by omega)]
  have u5 : upI I 1 5 x 1 5 = x := by simp [upI]
  refine ⟨⟨⟨v1, v2, v3, v4, v5, v6, v7, v8, fun k => ?_⟩, by rw [u 1 0 (by decide)]; exact s1, by rw [u 1 1 (by decide)]; exact s2, s3, s4, s5, by rw [u5]; exact hx, fun k hk => ?_⟩, hH.fr (fun a k ha => u a k (by omega)) (fun _ _ => rfl), hT.fr (u 39 0 (by decide)) rfl, hB.fr (fun k => u 42 k (Or.inl (by decide))) rfl, hP.fr (fun k => u 50 k (Or.inl (by decide))) (u 0 9 (by decide)) rfl⟩
  · show (if k = e then v else gA S.1 k) = 0 ∨ (if k = e then v else gA S.1 k) = 1
    split
    · exact hv
    · exact v9 k
  · show bt (upI I 1 5 x 1 5) k = if k = e then v else gA S.1 k
    rw [u5, hb k hk, s7 k hk]
