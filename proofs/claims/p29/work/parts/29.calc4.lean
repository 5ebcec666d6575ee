def ons (g : Nat → Int) : Nat → Int
  | 0 => 0
  | k + 1 => ons g k + g k
theorem ons_bsum {x : Int} {g : Nat → Int} : ∀ k : Nat, (∀ i, i < k → bt x i = g i) → bsum x k = ons g k
  | 0, _ => rfl
  | k + 1, h => by
    simp only [bsum, ons]
    rw [ons_bsum k (fun i hi => h i (by omega)), h k (by omega)]
def wA (S : Sx) (e : Nat) (v : Int) : Sx := ((gR S.1, gC S.1, gM S.1, gZ S.1, gY S.1, fun k => if k = e then v else gA S.1 k), S.2)
theorem CI.wA {S : Sx} {I : IE} {F : FE} {e : Nat} {v x : Int} (h : CI S I F) (hv : v = 0 ∨ v = 1) (hx : 0 ≤ x ∧ x < 65536) (hb : ∀ k, k < 16 → bt x k = if k = e then v else bt (I 1 5) k) : CI (wA S e v) (upI I 1 5 x) F := by
  obtain ⟨⟨⟨v1, v2, v3, v4, v5, v6, v7, v8, v9⟩, s1, s2, s3, s4, s5, s6, s7⟩, hH, hT, hB, hP⟩ := h
  have u : ∀ a k, (a ≠ 1 ∨ k ≠ 5) → upI I 1 5 x a k = I a k := fun a k ha => by simp only [upI]; rw [if_neg (by omega)]
  have u5 : upI I 1 5 x 1 5 = x := by simp [upI]
  refine ⟨⟨⟨v1, v2, v3, v4, v5, v6, v7, v8, fun k => ?_⟩, by rw [u 1 0 (by decide)]; exact s1, by rw [u 1 1 (by decide)]; exact s2, s3, s4, s5, by rw [u5]; exact hx, fun k hk => ?_⟩, hH.fr (fun a k ha => u a k (by omega)) (fun _ _ => rfl), hT.fr (u 39 0 (by decide)) rfl, hB.fr (fun k => u 42 k (Or.inl (by decide))) rfl, hP.fr (fun k => u 50 k (Or.inl (by decide))) (u 0 9 (by decide)) rfl⟩
  · show (if k = e then v else gA S.1 k) = 0 ∨ (if k = e then v else gA S.1 k) = 1
    split
    · exact hv
    · exact v9 k
  · show bt (upI I 1 5 x 1 5) k = if k = e then v else gA S.1 k
    rw [u5, hb k hk, s7 k hk]
theorem s7_activate {d : Nat} {I : IE} {F : FE} {S : Sx} {x y : Int} (hd : 4 ≤ d) (h : CI S I F) : MB m7_activate d shX [rv 0, iv x, iv y] I F (fun v I' F' =>
    if (0 ≤ x ∧ x < gk (gM S.1) (gC S.1)) ∧ 0 ≤ y ∧ y ≤ 1 then (if gA S.1 x.toNat = y then v = -1002 ∧ CI S I' F' else v = ons (gA (wA (psh S) x.toNat y).1) 16 ∧ CI (wA (psh S) x.toNat y) I' F') else v = -1001 ∧ CI S I' F') := by
  obtain ⟨v, s1, s2, s3, s4, s5, s6, s7⟩ := h.1
  have hn := v.2.1
  obtain ⟨b1, b2, b3, b, b4, b5⟩ := h.2.2.2.1
  obtain ⟨q1, q2, q3, q4⟩ := (show Bas (gM S.1) (gC S.1) (I 42 0, I 42 1, en F) from ⟨b2.1, b, b4, b5⟩).eq (by omega)
  rw [← q1]
  by_cases hc : (0 ≤ x ∧ x < I 42 0) ∧ 0 ≤ y ∧ y ≤ 1
  · simp only [if_pos hc]
    obtain ⟨e, rfl⟩ : ∃ e : Nat, x = (e : Int) := ⟨x.toNat, by omega⟩
    have he : e < 16 := by omega
    have e1 := s7 e he
    have e2 := v.2.2.2.2.2.2.2.2 e
    rw [show ((e : Int)).toNat = e by omega]
    by_cases hg : gA S.1 e = y
    · simp only [if_pos hg]
      refine MS_of (ls := [lr 0, li e, li y]) f7_activate rfl rfl (Nat.le_of_ble_eq_true rfl) ?_
      refine w_aload i7_activate_0 rfl ?_
      refine w_iload i7_activate_1 rfl ?_
      refine w_cVP i7_activate_2 f7_isElement v7_isElement s7_isElement rfl rfl (by decide) rfl rfl (Nat.le_of_ble_eq_true rfl) (by omega) (fun v1 hv1 => ?_)
      refine w_ifeq i7_activate_5 (fun h_ => absurd h_ (by rcases hv1 with h | h <;> omega)) (fun h5 => ?_)
      refine w_iload i7_activate_8 rfl ?_
      refine w_iflt i7_activate_9 (fun h_ => absurd h_ (by omega)) (fun h9 => ?_)
      refine w_iload i7_activate_12 rfl ?_
      refine w_const i7_activate_13 ?_
      refine w_icmple i7_activate_14 (fun h14 => ?_) (fun h_ => absurd h_ (by omega))
      refine w_aload i7_activate_21 rfl ?_
      refine w_getr i7_activate_22 rfl rfl ?_
      refine w_iload i7_activate_25 rfl ?_
      refine w_cVP i7_activate_26 f5_isOn v5_isOn (s5_isOn he s6) rfl rfl (by decide) rfl rfl (Nat.le_of_ble_eq_true rfl) (by omega) (fun v2 hv2 => ?_)
      rw [e1] at hv2
      refine w_cSR i7_activate_29 f7_asNumber v7_asNumber (s7_asNumber (by rcases hv2 with h | h <;> omega)) rfl rfl (Nat.le_of_ble_eq_true rfl) (by omega) ?_
      refine w_iload i7_activate_32 rfl ?_
      refine w_icmpne i7_activate_33 (fun h_ => absurd h_ (by rcases hv2 with h | h <;> omega)) (fun h33 => ?_)
      refine w_const i7_activate_36 ?_
      refine w_iret i7_activate_39 (Or.inl rfl) ⟨Nat.le_refl _, Nat.le_refl _⟩ ?_
      exact ⟨rfl, _, rfl, rfl, h⟩
    · simp only [if_neg hg]
      refine MS_of (ls := [lr 0, li e, li y]) f7_activate rfl rfl (Nat.le_of_ble_eq_true rfl) ?_
      refine w_aload i7_activate_0 rfl ?_
      refine w_iload i7_activate_1 rfl ?_
      refine w_cVP i7_activate_2 f7_isElement v7_isElement s7_isElement rfl rfl (by decide) rfl rfl (Nat.le_of_ble_eq_true rfl) (by omega) (fun v1 hv1 => ?_)
      refine w_ifeq i7_activate_5 (fun h_ => absurd h_ (by rcases hv1 with h | h <;> omega)) (fun h5 => ?_)
      refine w_iload i7_activate_8 rfl ?_
      refine w_iflt i7_activate_9 (fun h_ => absurd h_ (by omega)) (fun h9 => ?_)
      refine w_iload i7_activate_12 rfl ?_
      refine w_const i7_activate_13 ?_
      refine w_icmple i7_activate_14 (fun h14 => ?_) (fun h_ => absurd h_ (by omega))
      refine w_aload i7_activate_21 rfl ?_
      refine w_getr i7_activate_22 rfl rfl ?_
      refine w_iload i7_activate_25 rfl ?_
      refine w_cVP i7_activate_26 f5_isOn v5_isOn (s5_isOn he s6) rfl rfl (by decide) rfl rfl (Nat.le_of_ble_eq_true rfl) (by omega) (fun v2 hv2 => ?_)
      rw [e1] at hv2
      refine w_cSR i7_activate_29 f7_asNumber v7_asNumber (s7_asNumber (by rcases hv2 with h | h <;> omega)) rfl rfl (Nat.le_of_ble_eq_true rfl) (by omega) ?_
      refine w_iload i7_activate_32 rfl ?_
      refine w_icmpne i7_activate_33 (fun h33 => ?_) (fun h_ => absurd h_ (by rcases hv2 with h | h <;> omega))
      refine w_aload i7_activate_40 rfl ?_
      refine w_cVU i7_activate_41 f7_save v7_save (s7_save (by omega) h) rfl rfl (by decide) rfl rfl (Nat.le_of_ble_eq_true rfl) (by omega) (fun I1 F1 hq => ?_)
      have hq6 := hq.1.1.2.2.2.2.2.2.1
      refine w_aload i7_activate_44 rfl ?_
      refine w_getr i7_activate_45 rfl rfl ?_
      refine w_iload i7_activate_48 rfl ?_
      refine w_iload i7_activate_49 rfl ?_
      refine w_const i7_activate_50 ?_
      refine w_icmpne i7_activate_51 (fun h51 => ?_) (fun h51 => ?_)
      · refine w_const i7_activate_58 ?_
        refine w_cVU i7_activate_59 f5_switchTo v5_switchTo (s5_switchTo he (by omega) hq6) rfl rfl (by decide) rfl rfl (Nat.le_of_ble_eq_true rfl) (by omega) (fun I2 F2 hs => ?_)
        obtain ⟨eF, w, eI, w1, w2, w3⟩ := hs
        have w5 : I2 1 5 = w := by rw [eI]; simp [upI]
        refine w_aload i7_activate_62 rfl ?_
        refine w_getr i7_activate_63 rfl rfl ?_
        refine w_cVR i7_activate_66 f5_countOn v5_countOn (s5_countOn (by omega) (by rw [w5]; exact ⟨w1, w2⟩)) rfl rfl (by decide) rfl rfl (Nat.le_of_ble_eq_true rfl) (by omega) ?_
        refine w_iret i7_activate_69 (Or.inl rfl) ⟨Nat.le_refl _, Nat.le_refl _⟩ ?_
        rw [w5]
        have hA := hq.1.wA (e := e) (v := y) (by omega) ⟨w1, w2⟩ (fun k hk => by rw [w3 k hk]; (repeat' split) <;> omega)
        refine ⟨rfl, _, rfl, ons_bsum 16 (fun k hk => ?_), ?_⟩
        · have := hA.1.2.2.2.2.2.2.2 k hk
          rw [show upI I1 1 5 w 1 5 = w by simp [upI]] at this
          exact this
        · rw [eI, eF]; exact hA
      · refine w_const i7_activate_54 ?_
        refine w_goto i7_activate_55 ?_
        refine w_cVU i7_activate_59 f5_switchTo v5_switchTo (s5_switchTo he (by omega) hq6) rfl rfl (by decide) rfl rfl (Nat.le_of_ble_eq_true rfl) (by omega) (fun I2 F2 hs => ?_)
        obtain ⟨eF, w, eI, w1, w2, w3⟩ := hs
        have w5 : I2 1 5 = w := by rw [eI]; simp [upI]
        refine w_aload i7_activate_62 rfl ?_
        refine w_getr i7_activate_63 rfl rfl ?_
        refine w_cVR i7_activate_66 f5_countOn v5_countOn (s5_countOn (by omega) (by rw [w5]; exact ⟨w1, w2⟩)) rfl rfl (by decide) rfl rfl (Nat.le_of_ble_eq_true rfl) (by omega) ?_
        refine w_iret i7_activate_69 (Or.inl rfl) ⟨Nat.le_refl _, Nat.le_refl _⟩ ?_
        rw [w5]
        have hA := hq.1.wA (e := e) (v := y) (by omega) ⟨w1, w2⟩ (fun k hk => by rw [w3 k hk]; (repeat' split) <;> omega)
        refine ⟨rfl, _, rfl, ons_bsum 16 (fun k hk => ?_), ?_⟩
        · have := hA.1.2.2.2.2.2.2.2 k hk
          rw [show upI I1 1 5 w 1 5 = w by simp [upI]] at this
          exact this
        · rw [eI, eF]; exact hA
  · simp only [if_neg hc]
    refine MS_of (ls := [lr 0, li x, li y]) f7_activate rfl rfl (Nat.le_of_ble_eq_true rfl) ?_
    refine w_aload i7_activate_0 rfl ?_
    refine w_iload i7_activate_1 rfl ?_
    refine w_cVP i7_activate_2 f7_isElement v7_isElement s7_isElement rfl rfl (by decide) rfl rfl (Nat.le_of_ble_eq_true rfl) (by omega) (fun v1 hv1 => ?_)
    refine w_ifeq i7_activate_5 (fun h5 => ?_) (fun h5 => ?_)
    · refine w_const i7_activate_17 ?_
      refine w_iret i7_activate_20 (Or.inl rfl) ⟨Nat.le_refl _, Nat.le_refl _⟩ ?_
      exact ⟨rfl, _, rfl, rfl, h⟩
    · refine w_iload i7_activate_8 rfl ?_
      refine w_iflt i7_activate_9 (fun h9 => ?_) (fun h9 => ?_)
      · refine w_const i7_activate_17 ?_
        refine w_iret i7_activate_20 (Or.inl rfl) ⟨Nat.le_refl _, Nat.le_refl _⟩ ?_
        exact ⟨rfl, _, rfl, rfl, h⟩
      · refine w_iload i7_activate_12 rfl ?_
        refine w_const i7_activate_13 ?_
        refine w_icmple i7_activate_14 (fun h_ => absurd h_ (by rcases hv1 with h | h <;> omega)) (fun h14 => ?_)
        refine w_const i7_activate_17 ?_
        refine w_iret i7_activate_20 (Or.inl rfl) ⟨Nat.le_refl _, Nat.le_refl _⟩ ?_
        exact ⟨rfl, _, rfl, rfl, h⟩
