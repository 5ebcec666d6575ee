theorem cvec_ext {E E' : Int → Int → Int} {k c j : Int} (hE : ∀ e, 0 ≤ e ∧ e < k → E e j = E' e j) (hc : 0 ≤ c ∧ c < 2 * k) : cvec E c j = cvec E' c j := by
  unfold cvec
  split
  · exact hE _ (by omega)
  · exact ng_ext (hE _ (by omega))
theorem DSt.ext {n : Int} {E E' : Int → Int → Int} {k : Int} {w w' : Int → Int} {c : Int} {len : Nat} {rest seq : Int → Int} (hE : ∀ e, 0 ≤ e ∧ e < k → ∀ j, 0 ≤ j ∧ j < n → E e j = E' e j) (hw : ∀ j, 0 ≤ j ∧ j < n → w j = w' j) (hc : c ≤ 2 * k) (h : DSt n E k w c len rest seq) : DSt n E' k w' c len rest seq := by
  obtain ⟨R, C, h1, h2, h3, h4⟩ := h
  have ce : ∀ c' : Int, 0 ≤ c' ∧ c' < 2 * k → ∀ j, 0 ≤ j ∧ j < n → cvec E c' j = cvec E' c' j := fun c' hc' j hj => cvec_ext (fun e he => hE e he j hj) hc'
  refine ⟨R, C, fun j hj => by rw [h1 j hj, hw j hj], h2, fun i hi => ?_, fun c' hc' g => h4 c' hc' (cf_ext (fun j hj => (ce c' (by omega) j hj).symm) (fun _ _ => rfl) g)⟩
  obtain ⟨a1, a2, a3, a4⟩ := h3 i hi
  exact ⟨a1, ⟨cf_ext (fun j hj => ce _ a1 j hj) (fun _ _ => rfl) a2.1, fun c' hc' g => a2.2 c' hc' (cf_ext (fun j hj => (ce c' (by omega) j hj).symm) (fun _ _ => rfl) g)⟩, a3, fun j hj => by rw [a4 j hj, ce _ a1 j hj]⟩
theorem CB.E {σ : Sg} {I : IE} {F : FE} (hn : 2 ≤ gC σ ∧ gC σ ≤ 4) (h : CB σ I F) : I 42 0 = gk (gM σ) (gC σ) ∧ (∀ e, 0 ≤ e ∧ e < I 42 0 → ∀ j, 0 ≤ j ∧ j < 4 → en F e j = gE (gM σ) (gC σ) e j) ∧ ∃ b, PVr (gM σ) (gC σ) (I 42 1) b ∧ Bsp (gM σ) (gC σ) b (I 42 0) (en F) := by
  obtain ⟨b1, b2, b3, b, b4, b5⟩ := h
  obtain ⟨q1, q2, q3, q4⟩ := (show Bas (gM σ) (gC σ) (I 42 0, I 42 1, en F) from ⟨b2.1, b, b4, b5⟩).eq (by omega)
  exact ⟨q1, q3, b, b4, b5⟩
theorem CI.dec {I I' : IE} {F F' : FE} {S : Sx} {len : Nat} (h : CI S I F) (hf : Dfr I I' F F') (hD : DSt (I 42 3) (en F) (I 42 0) (F 3) (2 * I 42 0) len (F' 49) (F' 48)) : CI S I' F' ∧ Dec (gM S.1) (gC S.1) (gZ S.1) (len, F' 48) := by
  obtain ⟨v, s1, s2, s3, s4, s5⟩ := id h.1
  obtain ⟨q1, q3, b, b4, b5⟩ := CB.E v.2.1 h.2.2.2.1
  have hn := v.2.1
  refine ⟨h.D hf, F' 49, ?_⟩
  have := DSt.ext (E' := gE (gM S.1) (gC S.1)) (w' := gZ S.1) (fun e he j hj => q3 e he j (by have := h.2.2.2.1.1; omega)) (fun j _ => by rw [s4]) (Int.le_refl _) hD
  rw [h.2.2.2.1.1, q1] at this
  exact this
theorem s7_decompositionLength {d : Nat} {I : IE} {F : FE} {S : Sx} (hd : 4 ≤ d) (h : CI S I F) : MB m7_decompositionLength d shX [rv 0] I F (fun v I' F' => CI S I' F' ∧ ((¬ KerF (gM S.1) (gC S.1) (gZ S.1) ∧ v = -1002) ∨ KerF (gM S.1) (gC S.1) (gZ S.1) ∧ ∃ (len : Nat) (seq : Int → Int), Dec (gM S.1) (gC S.1) (gZ S.1) (len, seq) ∧ v = (len : Int))) := by
  obtain ⟨v, s1, s2, s3, s4, s5⟩ := id h.1
  have hn := v.2.1
  have hz := v.2.2.2.2.1
  have hB := h.2.2.2.1
  obtain ⟨q1, q3, b, b4, b5⟩ := CB.E v.2.1 hB
  refine MS_of (ls := [lr 0]) f7_decompositionLength rfl rfl (Nat.le_of_ble_eq_true rfl) ?_
  refine w_aload i7_decompositionLength_0 rfl ?_
  refine w_getr i7_decompositionLength_1 rfl rfl ?_
  refine w_cVP i7_decompositionLength_4 f5_hasVectorInKernel v5_hasVectorInKernel (s5_hasVectorInKernel (by omega) (by omega) (by rw [s3]; exact v.2.2.1) (fun j _ => by rw [s4]; have := hz j; omega)) rfl rfl (by decide) rfl rfl (Nat.le_of_ble_eq_true rfl) (by omega) (fun v1 hv1 => ?_)
  rw [s2, s3, s4] at hv1
  refine w_ifne i7_decompositionLength_7 (fun h7 => ?_) (fun h7 => ?_)
  · refine w_aload i7_decompositionLength_14 rfl ?_
    refine w_getr i7_decompositionLength_15 rfl rfl ?_
    refine w_aload i7_decompositionLength_18 rfl ?_
    refine w_getr i7_decompositionLength_19 rfl rfl ?_
    refine w_aload i7_decompositionLength_22 rfl ?_
    refine w_getr i7_decompositionLength_23 rfl rfl ?_
    refine w_getr i7_decompositionLength_26 rfl rfl ?_
    refine w_cVU i7_decompositionLength_29 f0_find v0_find (s0_find (p := 3) (by omega) hB.2.1 (by rw [hB.1]; omega) hB.2.2.1 (by rw [hB.1]; exact b5.nz) rfl (fun j _ => by rw [s4]; exact hz j) (by decide) (by decide)) rfl rfl (by decide) rfl rfl (Nat.le_of_ble_eq_true rfl) (by omega) (fun I1 F1 hq => ?_)
    obtain ⟨hf, len, l1, l2, hD⟩ := hq
    refine w_aload i7_decompositionLength_32 rfl ?_
    refine w_getr i7_decompositionLength_33 rfl rfl ?_
    refine w_get i7_decompositionLength_36 rfl rfl ?_
    refine w_iret i7_decompositionLength_39 (Or.inl rfl) ⟨Nat.le_refl _, Nat.le_refl _⟩ ?_
    refine ⟨rfl, _, rfl, (h.dec hf hD).1, Or.inr ⟨?_, len, _, (h.dec hf hD).2, l1⟩⟩
    rcases hv1 with ⟨-, a⟩ | ⟨a, -⟩
    · exact a
    · omega
  · refine w_const i7_decompositionLength_10 ?_
    refine w_iret i7_decompositionLength_13 (Or.inl rfl) ⟨Nat.le_refl _, Nat.le_refl _⟩ ?_
    exact ⟨rfl, _, rfl, h, Or.inl ⟨fun g => by rcases hv1 with ⟨a, -⟩ | ⟨-, a⟩; omega; exact a g, rfl⟩⟩
theorem s7_decompositionStep {d : Nat} {I : IE} {F : FE} {S : Sx} {x : Int} (hd : 4 ≤ d) (h : CI S I F) : MB m7_decompositionStep d shX [rv 0, iv x] I F (fun v I' F' => CI S I' F' ∧ ((x < 0 ∧ v = -1001) ∨ (0 ≤ x ∧ ¬ KerF (gM S.1) (gC S.1) (gZ S.1) ∧ v = -1002) ∨ 0 ≤ x ∧ KerF (gM S.1) (gC S.1) (gZ S.1) ∧ ∃ (len : Nat) (seq : Int → Int), Dec (gM S.1) (gC S.1) (gZ S.1) (len, seq) ∧ v = if x < len then seq x else -1009)) := by
  obtain ⟨v, s1, s2, s3, s4, s5⟩ := id h.1
  have hn := v.2.1
  have hz := v.2.2.2.2.1
  have hB := h.2.2.2.1
  obtain ⟨q1, q3, b, b4, b5⟩ := CB.E v.2.1 hB
  refine MS_of (ls := [lr 0, li x]) f7_decompositionStep rfl rfl (Nat.le_of_ble_eq_true rfl) ?_
  refine w_iload i7_decompositionStep_0 rfl ?_
  refine w_ifge i7_decompositionStep_1 (fun h1 => ?_) (fun h1 => ?_)
  · refine w_aload i7_decompositionStep_8 rfl ?_
    refine w_getr i7_decompositionStep_9 rfl rfl ?_
    refine w_cVP i7_decompositionStep_12 f5_hasVectorInKernel v5_hasVectorInKernel (s5_hasVectorInKernel (by omega) (by omega) (by rw [s3]; exact v.2.2.1) (fun j _ => by rw [s4]; have := hz j; omega)) rfl rfl (by decide) rfl rfl (Nat.le_of_ble_eq_true rfl) (by omega) (fun v1 hv1 => ?_)
    rw [s2, s3, s4] at hv1
    refine w_ifne i7_decompositionStep_15 (fun h15 => ?_) (fun h15 => ?_)
    · refine w_aload i7_decompositionStep_22 rfl ?_
      refine w_getr i7_decompositionStep_23 rfl rfl ?_
      refine w_aload i7_decompositionStep_26 rfl ?_
      refine w_getr i7_decompositionStep_27 rfl rfl ?_
      refine w_aload i7_decompositionStep_30 rfl ?_
      refine w_getr i7_decompositionStep_31 rfl rfl ?_
      refine w_getr i7_decompositionStep_34 rfl rfl ?_
      refine w_cVU i7_decompositionStep_37 f0_find v0_find (s0_find (p := 3) (by omega) hB.2.1 (by rw [hB.1]; omega) hB.2.2.1 (by rw [hB.1]; exact b5.nz) rfl (fun j _ => by rw [s4]; exact hz j) (by decide) (by decide)) rfl rfl (by decide) rfl rfl (Nat.le_of_ble_eq_true rfl) (by omega) (fun I1 F1 hq => ?_)
      obtain ⟨hf, len, l1, l2, hD⟩ := hq
      have hK : KerF (gM S.1) (gC S.1) (gZ S.1) := by
        rcases hv1 with ⟨-, a⟩ | ⟨a, -⟩
        · exact a
        · omega
      refine w_iload i7_decompositionStep_40 rfl ?_
      refine w_aload i7_decompositionStep_41 rfl ?_
      refine w_getr i7_decompositionStep_42 rfl rfl ?_
      refine w_get i7_decompositionStep_45 rfl rfl ?_
      refine w_icmplt i7_decompositionStep_48 (fun h48 => ?_) (fun h48 => ?_)
      · refine w_aload i7_decompositionStep_55 rfl ?_
        refine w_getr i7_decompositionStep_56 rfl rfl ?_
        refine w_getr i7_decompositionStep_59 rfl rfl ?_
        refine w_iload i7_decompositionStep_62 rfl ?_
        refine w_iald i7_decompositionStep_63 rfl (by omega) ?_
        refine w_iret i7_decompositionStep_64 (Or.inl rfl) ⟨Nat.le_refl _, Nat.le_refl _⟩ ?_
        exact ⟨rfl, _, rfl, (h.dec hf hD).1, Or.inr (Or.inr ⟨by omega, hK, len, _, (h.dec hf hD).2, by rw [if_pos (by omega)]⟩)⟩
      · refine w_const i7_decompositionStep_51 ?_
        refine w_iret i7_decompositionStep_54 (Or.inl rfl) ⟨Nat.le_refl _, Nat.le_refl _⟩ ?_
        exact ⟨rfl, _, rfl, (h.dec hf hD).1, Or.inr (Or.inr ⟨by omega, hK, len, _, (h.dec hf hD).2, by rw [if_neg (by omega)]⟩)⟩
    · refine w_const i7_decompositionStep_18 ?_
      refine w_iret i7_decompositionStep_21 (Or.inl rfl) ⟨Nat.le_refl _, Nat.le_refl _⟩ ?_
      exact ⟨rfl, _, rfl, h, Or.inr (Or.inl ⟨by omega, fun g => by rcases hv1 with ⟨a, -⟩ | ⟨-, a⟩; omega; exact a g, rfl⟩)⟩
  · refine w_const i7_decompositionStep_4 ?_
    refine w_iret i7_decompositionStep_7 (Or.inl rfl) ⟨Nat.le_refl _, Nat.le_refl _⟩ ?_
    exact ⟨rfl, _, rfl, h, Or.inl ⟨by omega, rfl⟩⟩
