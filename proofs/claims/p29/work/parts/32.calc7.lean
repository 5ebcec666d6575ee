theorem cvec_ext {E E' : Int → Int → Int} {k c j : Int} (hE : ∀ e, 0 ≤ e ∧ e < k → E e j = E' e j) (hc : 0 ≤ c ∧ c < 2 * k) : cvec E c j = cvec E' c j := by
  unfold cvec
  split
  · exact hE _ (by omega)
  · exact ng_ext (hE _ (by omega))
theorem DSt.ext {n : Int} {E E' : Int → Int → Int} {k : Int} {w w' : Int → Int} {c : Int} {len : Nat} {rest seq : Int → Int} (hE : ∀ e, 0 ≤ e ∧ e < k → ∀ j, 0 ≤ j ∧ j < n → E e j = E' e j) (hw : ∀ j, 0 ≤ j ∧ j < n → w j = w' j) (hc : c ≤ 2 * k) (h : DSt n E k w c len rest seq) : DSt n E' k w' c len rest seq := by
  obtain ⟨R, C, h1, h2, h3, h4⟩ := h
  have ce : ∀ c' : Int, 0 ≤ c' ∧ c' < 2 * k → ∀ j, 0 ≤ j ∧ j < n → cvec E c' j = cvec E' c' j := fun c' hc' j hj => cvec_ext (fun e he => hE e he j hj) hc'
  refine ⟨R, C, fun j hj => by rw [h1 j hj, hw j hj], h2, fun i hi => ?_, fun c' hc' g => h4 c' hc' (cf_ext (fun j hj => (ce c' (by omega) j hj).symm) (fun _ _ => rfl) g)⟩
  obtain ⟨a1, a2, a3, a4⟩ := h3 i hi
  exact ⟨a1, ⟨cf_ext (fun j hj => ce _ a1 j hj) (fun _ _ => rfl) a2.1, fun c' hc' g => a2.2 c' hc' (cf_ext (fun j hj => (ce c' (by omega) j hj).symm) (fun _ _ => rfl) g)⟩, a3, fun j hj => by rw [a4 j hj, ce _ a1 j hj]⟩
theorem CB.E {σ : Sg} {I : IE} {F : FE} (hn : 2 ≤ gC σ ∧ gC σ ≤ 4) (h : CB σ I F) : I 42 0 = gk (gM σ) (gC σ) ∧ (∀ e, 0 ≤ e ∧ e < I 42 0 → ∀ j, 0 ≤ j ∧ j < 4 → en F e j = gE (gM σ) (gC σ) e j) ∧ ∃ b, PVr (gM σ) (gC σ) (I 42 1) b ∧ Bsp (gM σ) (gC σ) b (I 42 0) (en F) := by
  obtain ⟨b1, b2, b3, b, b4, b5⟩ := h
  obtain ⟨q1, q2, q3, q4⟩ := (show Bas (gM σ) (gC σ) (I 42 0, I 42 1, en F) from ⟨b2.1, b, b4, b5⟩).eq (by omega)
  exact ⟨q1, q3, b, b4, b5⟩
theorem CI.dec {I I' : IE} {F F' : FE} {S : Sx} {len : Nat} (h : CI S I F) (hf : Dfr I I' F F') (hD : DSt (I 42 3) (en F) (I 42 0) (F 3) (2 * I 42 0) len (F' 49) (F' 48)) : CI S I' F' ∧ Dec (gM S.1) (gC S.1) (gZ S.1) (len, F' 48) := by
  obtain ⟨v, s1, s2, s3, s4, s5⟩ := id h.1
  obtain ⟨q1, q3, b, b4, b5⟩ := CB.E v.2.1 h.2.2.2.1
  have hn := v.2.1
  refine ⟨h.D hf, F' 49, ?_⟩
  have := DSt.ext (E' := gE (gM S.1) (gC S.1)) (w' := gZ S.1) (fun e he j hj => q3 e he j (by have := h.2.2.2.1.1; omega)) (fun j _ => by rw [s4]) (Int.le_refl _) hD
  rw [h.2.2.2.1.1, q1] at this
  exact this
