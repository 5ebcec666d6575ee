theorem row_pk {M y : Int → Int} {n : Int} (hn : 2 ≤ n ∧ n ≤ 4) (h : FibP M n y (fbm M n y, fbf M n y)) {i : Int} (hi : 0 ≤ i ∧ i < fbm M n y) : pkn (fy M n y i) n.toNat = fbf M n y i ∧ (∀ j, 0 ≤ j ∧ j < 4 → 0 ≤ fy M n y i j ∧ fy M n y i j ≤ 127) ∧ (∀ j, n ≤ j ∧ j < 4 → fy M n y i j = 0) ∧ FSn M n (dt M y 0 n.toNat) (dt M y 1 n.toNat) (fy M n y i) := by
  obtain ⟨g1, g2⟩ := fbY_ok h hi
  obtain ⟨g3, g4⟩ := g1.fsn hn
  have e : ∀ j, 0 ≤ j ∧ j < n → fy M n y i j = usf n (fbY M n y i) j := fun j hj => by unfold fy usf; rw [if_pos hj.2]
  refine ⟨?_, fun j hj => ?_, fun j hj => ?_, fun j hj => by rw [e j hj]; exact g3.1 j hj, ?_, ?_⟩
  · rw [pkn_ext n.toNat (fun j hj => e j (by omega)), pk_cd4 hn, g2]
    unfold cd4 pre3
    rw [g4 0 (by decide), g4 1 (by decide), g4 2 (by decide), g4 3 (by decide)]
  · unfold fy
    split
    · have := g1.1 (j + (4 - n)) (by omega); omega
    · decide
  · unfold fy; rw [if_neg (by omega)]
  · rw [dt_ext n.toNat (fun j hj => e j (by omega))]; exact g3.2.1
  · rw [dt_ext n.toNat (fun j hj => e j (by omega))]; exact g3.2.2
theorem pkn4 {n : Int} {u v : Int → Int} (hn : 2 ≤ n ∧ n ≤ 4) (hu : ∀ j, n ≤ j ∧ j < 4 → u j = 0) (hv : ∀ j, n ≤ j ∧ j < 4 → v j = 0) : (pkn u 4 < pkn v 4 ↔ pkn u n.toNat < pkn v n.toNat) ∧ (pkn u n.toNat = pkn v n.toNat → pkn u 4 = pkn v 4) := by
  rcases (show n = 2 ∨ n = 3 ∨ n = 4 by omega) with rfl | rfl | rfl
  · have u2 := hu 2 (by decide); have u3 := hu 3 (by decide); have v2 := hv 2 (by decide); have v3 := hv 3 (by decide)
    show ((pkn u 2 * 128 + u 2) * 128 + u 3 < (pkn v 2 * 128 + v 2) * 128 + v 3 ↔ pkn u 2 < pkn v 2) ∧ (pkn u 2 = pkn v 2 → (pkn u 2 * 128 + u 2) * 128 + u 3 = (pkn v 2 * 128 + v 2) * 128 + v 3)
    omega
  · have u3 := hu 3 (by decide); have v3 := hv 3 (by decide)
    show (pkn u 3 * 128 + u 3 < pkn v 3 * 128 + v 3 ↔ pkn u 3 < pkn v 3) ∧ (pkn u 3 = pkn v 3 → pkn u 3 * 128 + u 3 = pkn v 3 * 128 + v 3)
    omega
  · exact ⟨Iff.rfl, id⟩
theorem ixo_ext {M y : Int → Int} {n : Int} {u v : Int → Int} (e : ∀ j, 0 ≤ j ∧ j < n → u j = v j) : ixo M n y u = ixo M n y v := by unfold ixo; rw [shf_ext e]
theorem FibR.kp {M y : Int → Int} {n : Int} {I I' : IE} {F F' : FE} (h : FibR M n y I F) (h0 : I' 0 14 = I 0 14) (h1 : F' 9 = F 9) : FibR M n y I' F' := by
  obtain ⟨a1, a2, a3, a4⟩ := h
  exact ⟨by rw [h0, a1], a2, fun i hi j hj => by rw [← a3 i hi j hj]; unfold fr; rw [h1], a4⟩
