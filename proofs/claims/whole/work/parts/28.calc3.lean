def Circ (M : Int → Int) (n e : Int) : Prop := ∀ o, 0 ≤ o ∧ o < gk M n → ¬ zsub (gE M n o) (gE M n e) n
theorem zsub_ext {f f' g g' : Int → Int} {n : Int} (hf : ∀ j, 0 ≤ j ∧ j < n → f j = f' j) (hg : ∀ j, 0 ≤ j ∧ j < n → g j = g' j) (h : zsub f g n) : zsub f' g' n := by
  obtain ⟨h1, i, i0, i1, i2, i3⟩ := h
  exact ⟨fun j hj hne => by rw [← hg j hj]; exact h1 j hj (by rw [hf j hj]; exact hne), i, i0, i1, by rw [← hg i ⟨i0, i1⟩]; exact i2, by rw [← hf i ⟨i0, i1⟩]; exact i3⟩
theorem s7_isCircuit {d : Nat} {I : IE} {F : FE} {S : Sx} {x : Int} (hd : 3 ≤ d) (h : CI S I F) : MP m7_isCircuit d shX [rv 0, iv x] I F (fun v => if 0 ≤ x ∧ x < gk (gM S.1) (gC S.1) then tf (Circ (gM S.1) (gC S.1) x) v else v = -1001) := by
  obtain ⟨v, s1, s2, s3, s4⟩ := h.1
  have hn := v.2.1
  obtain ⟨b1, b2, b3, b, b4, b5⟩ := h.2.2.2.1
  obtain ⟨q1, q2, q3, q4⟩ := (show Bas (gM S.1) (gC S.1) (I 42 0, I 42 1, en F) from ⟨b2.1, b, b4, b5⟩).eq (by omega)
  by_cases hc : 0 ≤ x ∧ x < gk (gM S.1) (gC S.1)
  · simp only [if_pos hc]
    refine MS_of (ls := [lr 0, li x]) f7_isCircuit rfl rfl (Nat.le_of_ble_eq_true rfl) ?_
    refine w_aload i7_isCircuit_0 rfl ?_
    refine w_iload i7_isCircuit_1 rfl ?_
    refine w_cVP i7_isCircuit_2 f7_isElement v7_isElement s7_isElement rfl rfl (by decide) rfl rfl (Nat.le_of_ble_eq_true rfl) (by omega) (fun v1 hv1 => ?_)
    refine w_ifne i7_isCircuit_5 (fun h5 => ?_) (fun h_ => absurd h_ (by rcases hv1 with h | h <;> omega))
    refine w_aload i7_isCircuit_12 rfl ?_
    refine w_getr i7_isCircuit_13 rfl rfl ?_
    refine w_iload i7_isCircuit_16 rfl ?_
    refine w_cVP i7_isCircuit_17 f2_hasLeastSupport v2_hasLeastSupport (s2_hasLeastSupport (by omega) (by omega) (by omega) (by omega)) rfl rfl (by decide) rfl rfl (Nat.le_of_ble_eq_true rfl) (by omega) (fun v2 hv2 => ?_)
    refine w_cSR i7_isCircuit_20 f7_asNumber v7_asNumber (s7_asNumber (by rcases hv2 with h | h <;> omega)) rfl rfl (Nat.le_of_ble_eq_true rfl) (by omega) ?_
    refine w_iret i7_isCircuit_23 (Or.inl rfl) ⟨Nat.le_refl _, Nat.le_refl _⟩ ?_
    refine ⟨rfl, _, rfl, ?_, rfl, rfl⟩
    have e : (∀ o, 0 ≤ o ∧ o < I 42 0 → ¬ zsub (en F o) (en F x) (I 42 3)) ↔ Circ (gM S.1) (gC S.1) x := by
      unfold Circ
      rw [← q1, b1]
      constructor
      · exact fun hh o ho hz => hh o ho (zsub_ext (fun j hj => (q3 o ho j (by omega)).symm) (fun j hj => (q3 x (by omega) j (by omega)).symm) hz)
      · exact fun hh o ho hz => hh o ho (zsub_ext (fun j hj => q3 o ho j (by omega)) (fun j hj => q3 x (by omega) j (by omega)) hz)
    unfold tf at hv2 ⊢
    rw [← e]
    exact hv2
  · simp only [if_neg hc]
    refine MS_of (ls := [lr 0, li x]) f7_isCircuit rfl rfl (Nat.le_of_ble_eq_true rfl) ?_
    refine w_aload i7_isCircuit_0 rfl ?_
    refine w_iload i7_isCircuit_1 rfl ?_
    refine w_cVP i7_isCircuit_2 f7_isElement v7_isElement s7_isElement rfl rfl (by decide) rfl rfl (Nat.le_of_ble_eq_true rfl) (by omega) (fun v1 hv1 => ?_)
    refine w_ifne i7_isCircuit_5 (fun h_ => absurd h_ (by rcases hv1 with h | h <;> omega)) (fun h5 => ?_)
    refine w_const i7_isCircuit_8 ?_
    refine w_iret i7_isCircuit_11 (Or.inl rfl) ⟨Nat.le_refl _, Nat.le_refl _⟩ ?_
    exact ⟨rfl, _, rfl, rfl, rfl, rfl⟩
