theorem DI.wZ {S : Sx} {I : IE} {F : FE} {i v : Int} (h : DI S I F) (hi : 0 ≤ i ∧ i < gC S.1) (hv : -30 ≤ v ∧ v ≤ 30) : DI (wZ S i v) I (upF F 1 (10 + i) v) := by
  obtain ⟨⟨⟨v1, v2, v3, v4, v5, v6, v7, v8, v9⟩, hA, n1, n2, n3, n4, n5, n6⟩, hB, hH, hT⟩ := h
  have u : ∀ a, a ≠ 1 → upF F 1 (10 + i) v a = F a := fun a ha => by funext j; simp only [upF, ha, false_and, if_false]
  have w : ∀ j, j ≠ 10 + i → upF F 1 (10 + i) v 1 j = F 1 j := fun j hj => by simp only [upF, true_and, hj, if_false]
  refine ⟨⟨⟨v1, v2, v3, v4, fun j => ?_, fun j hj => ?_, v7, v8, v9⟩, hA, by rw [w 0 (by omega)]; exact n1, by rw [w 1 (by omega)]; exact n2, fun j hj => by rw [w _ (by omega)]; exact n3 j hj, fun j hj => ?_, fun j hj => by rw [w _ (by omega)]; exact n5 j hj, fun k hk => by rw [w _ (by omega)]; exact n6 k hk⟩, hB.fr rfl (u 4 (by decide)), hH.fr rfl (u 2 (by decide)), hT.fr rfl (u 3 (by decide))⟩
  · show -30 ≤ (if j = i then v else gZ S.1 j) ∧ (if j = i then v else gZ S.1 j) ≤ 30
    split
    · exact hv
    · exact v5 j
  · show (if j = i then v else gZ S.1 j) = 0
    have hj' : j < 0 ∨ gC S.1 ≤ j := hj
    rw [if_neg (by omega)]
    exact v6 j hj'
  · show upF F 1 (10 + i) v 1 (10 + j) = if j = i then v else gZ S.1 j
    by_cases c : j = i
    · rw [if_pos c, c]; simp [upF]
    · rw [if_neg c, w _ (by omega)]; exact n4 j hj
theorem DI.wY {S : Sx} {I : IE} {F : FE} {i v : Int} (h : DI S I F) (hi : 0 ≤ i ∧ i < gC S.1) (hv : 0 ≤ v ∧ v ≤ 5) : DI (wY S i v) I (upF F 1 (14 + i) v) := by
  obtain ⟨⟨⟨v1, v2, v3, v4, v5, v6, v7, v8, v9⟩, hA, n1, n2, n3, n4, n5, n6⟩, hB, hH, hT⟩ := h
  have u : ∀ a, a ≠ 1 → upF F 1 (14 + i) v a = F a := fun a ha => by funext j; simp only [upF, ha, false_and, if_false]
  have w : ∀ j, j ≠ 14 + i → upF F 1 (14 + i) v 1 j = F 1 j := fun j hj => by simp only [upF, true_and, hj, if_false]
  refine ⟨⟨⟨v1, v2, v3, v4, v5, v6, fun j => ?_, fun j hj => ?_, v9⟩, hA, by rw [w 0 (by omega)]; exact n1, by rw [w 1 (by omega)]; exact n2, fun j hj => by rw [w _ (by omega)]; exact n3 j hj, fun j hj => by rw [w _ (by omega)]; exact n4 j hj, fun j hj => ?_, fun k hk => by rw [w _ (by omega)]; exact n6 k hk⟩, hB.fr rfl (u 4 (by decide)), hH.fr rfl (u 2 (by decide)), hT.fr rfl (u 3 (by decide))⟩
  · show 0 ≤ (if j = i then v else gY S.1 j) ∧ (if j = i then v else gY S.1 j) ≤ 5
    split
    · exact hv
    · exact v7 j
  · show (if j = i then v else gY S.1 j) = 0
    have hj' : j < 0 ∨ gC S.1 ≤ j := hj
    rw [if_neg (by omega)]
    exact v8 j hj'
  · show upF F 1 (14 + i) v 1 (14 + j) = if j = i then v else gY S.1 j
    by_cases c : j = i
    · rw [if_pos c, c]; simp [upF]
    · rw [if_neg c, w _ (by omega)]; exact n5 j hj
theorem DI.wA {S : Sx} {I : IE} {F : FE} {e : Nat} {v : Int} (h : DI S I F) (he : (e : Int) < gk (gM S.1) (gC S.1)) (hv : v = 0 ∨ v = 1) : DI (wA S e v) I (upF F 1 (18 + e) v) := by
  obtain ⟨⟨⟨v1, v2, v3, v4, v5, v6, v7, v8, v9⟩, hA, n1, n2, n3, n4, n5, n6⟩, hB, hH, hT⟩ := h
  have u : ∀ a, a ≠ 1 → upF F 1 (18 + e) v a = F a := fun a ha => by funext j; simp only [upF, ha, false_and, if_false]
  have w : ∀ j, j ≠ 18 + (e : Int) → upF F 1 (18 + e) v 1 j = F 1 j := fun j hj => by simp only [upF, true_and, hj, if_false]
  refine ⟨⟨⟨v1, v2, v3, v4, v5, v6, v7, v8, fun k => ?_⟩, fun k hk => ?_, by rw [w 0 (by omega)]; exact n1, by rw [w 1 (by omega)]; exact n2, fun j hj => by rw [w _ (by omega)]; exact n3 j hj, fun j hj => by rw [w _ (by omega)]; exact n4 j hj, fun j hj => by rw [w _ (by omega)]; exact n5 j hj, fun k hk => ?_⟩, hB.fr rfl (u 4 (by decide)), hH.fr rfl (u 2 (by decide)), hT.fr rfl (u 3 (by decide))⟩
  · show (if k = e then v else gA S.1 k) = 0 ∨ (if k = e then v else gA S.1 k) = 1
    split
    · exact hv
    · exact v9 k
  · show (if k = e then v else gA S.1 k) = 0
    have hk' : gk (gM S.1) (gC S.1) ≤ k := hk
    rw [if_neg (by omega)]
    exact hA k hk'
  · show upF F 1 (18 + e) v 1 (18 + k) = if k = e then v else gA S.1 k
    by_cases c : k = e
    · rw [if_pos c, c]; simp [upF]
    · rw [if_neg c, w _ (by omega)]; exact n6 k hk
theorem r_setVector {d : Nat} {I : IE} {F : FE} {S : Sx} {x y : Int} (hd : 3 ≤ d) (h : DI S I F) : MB m8_setVector d shM [rv 0, iv x, iv y] I F (fun v I' F' => if (0 ≤ x ∧ x < gC S.1) ∧ -30 ≤ y ∧ y ≤ 30 then v = gZ S.1 x ∧ DI (wZ (psh S) x y) I' F' else v = -1001 ∧ DI S I' F') := by
  have hV := h.1.1
  have hn := hV.2.1
  obtain ⟨n1, n2, n3, n4, n5, n6⟩ := h.1.2.2
  by_cases hc : (0 ≤ x ∧ x < gC S.1) ∧ -30 ≤ y ∧ y ≤ 30
  · simp only [if_pos hc]
    refine MS_of (ls := [lr 0, li x, li y, lu]) f8_setVector rfl rfl (Nat.le_of_ble_eq_true rfl) ?_
    refine w_aload i8_setVector_0 rfl ?_
    refine w_iload i8_setVector_1 rfl ?_
    refine w_cVP i8_setVector_2 f8_isColumn v8_isColumn (r_isColumn (by omega) n2 (by omega)) rfl rfl (by decide) rfl rfl (Nat.le_of_ble_eq_true rfl) (by omega) (fun v1 hv1 => ?_)
    refine w_ifeq i8_setVector_5 (fun h_ => absurd h_ (by rcases hv1 with h | h <;> omega)) (fun h5 => ?_)
    refine w_iload i8_setVector_8 rfl ?_
    refine w_const i8_setVector_9 ?_
    refine w_const i8_setVector_11 ?_
    refine w_cSP i8_setVector_13 f8_in v8_in r_in rfl rfl (Nat.le_of_ble_eq_true rfl) (by omega) (fun v2 hv2 => ?_)
    refine w_ifne i8_setVector_16 (fun h16 => ?_) (fun h_ => absurd h_ (by rcases hv2 with h | h <;> omega))
    refine w_aload i8_setVector_23 rfl ?_
    refine w_cVU i8_setVector_24 f8_keep v8_keep (r_keep h) rfl rfl (by decide) rfl rfl (Nat.le_of_ble_eq_true rfl) (by omega) (fun I1 F1 hq => ?_)
    have k4 := hq.1.1.2.2.2.2.2.1 x (by omega)
    refine w_aload i8_setVector_27 rfl ?_
    refine w_getr i8_setVector_28 rfl rfl ?_
    refine w_const i8_setVector_31 ?_
    refine w_iload i8_setVector_33 rfl ?_
    refine w_iadd i8_setVector_34 (by omega) ?_
    refine w_iald i8_setVector_35 rfl (by omega) ?_
    refine w_is3 i8_setVector_36 ?_
    refine w_aload i8_setVector_37 rfl ?_
    refine w_getr i8_setVector_38 rfl rfl ?_
    refine w_const i8_setVector_41 ?_
    refine w_iload i8_setVector_43 rfl ?_
    refine w_iadd i8_setVector_44 (by omega) ?_
    refine w_iload i8_setVector_45 rfl ?_
    refine w_iast i8_setVector_46 rfl (by omega) ?_
    refine w_iload i8_setVector_47 rfl ?_
    refine w_iret i8_setVector_48 (Or.inl rfl) ⟨Nat.le_refl _, Nat.le_refl _⟩ ?_
    exact ⟨rfl, _, rfl, k4, hq.1.wZ hc.1 hc.2⟩
  · simp only [if_neg hc]
    refine MS_of (ls := [lr 0, li x, li y, lu]) f8_setVector rfl rfl (Nat.le_of_ble_eq_true rfl) ?_
    refine w_aload i8_setVector_0 rfl ?_
    refine w_iload i8_setVector_1 rfl ?_
    refine w_cVP i8_setVector_2 f8_isColumn v8_isColumn (r_isColumn (by omega) n2 (by omega)) rfl rfl (by decide) rfl rfl (Nat.le_of_ble_eq_true rfl) (by omega) (fun v1 hv1 => ?_)
    refine w_ifeq i8_setVector_5 (fun h5 => ?_) (fun h5 => ?_)
    · refine w_const i8_setVector_19 ?_
      refine w_iret i8_setVector_22 (Or.inl rfl) ⟨Nat.le_refl _, Nat.le_refl _⟩ ?_
      exact ⟨rfl, _, rfl, rfl, h⟩
    · refine w_iload i8_setVector_8 rfl ?_
      refine w_const i8_setVector_9 ?_
      refine w_const i8_setVector_11 ?_
      refine w_cSP i8_setVector_13 f8_in v8_in r_in rfl rfl (Nat.le_of_ble_eq_true rfl) (by omega) (fun v2 hv2 => ?_)
      refine w_ifne i8_setVector_16 (fun h_ => absurd h_ (by rcases hv1 with h | h <;> rcases hv2 with g | g <;> omega)) (fun h16 => ?_)
      refine w_const i8_setVector_19 ?_
      refine w_iret i8_setVector_22 (Or.inl rfl) ⟨Nat.le_refl _, Nat.le_refl _⟩ ?_
      exact ⟨rfl, _, rfl, rfl, h⟩
theorem r_setPoint {d : Nat} {I : IE} {F : FE} {S : Sx} {x y : Int} (hd : 3 ≤ d) (h : DI S I F) : MB m8_setPoint d shM [rv 0, iv x, iv y] I F (fun v I' F' => if (0 ≤ x ∧ x < gC S.1) ∧ 0 ≤ y ∧ y ≤ 5 then v = gY S.1 x ∧ DI (wY (psh S) x y) I' F' else v = -1001 ∧ DI S I' F') := by
  have hV := h.1.1
  have hn := hV.2.1
  obtain ⟨n1, n2, n3, n4, n5, n6⟩ := h.1.2.2
  by_cases hc : (0 ≤ x ∧ x < gC S.1) ∧ 0 ≤ y ∧ y ≤ 5
  · simp only [if_pos hc]
    refine MS_of (ls := [lr 0, li x, li y, lu]) f8_setPoint rfl rfl (Nat.le_of_ble_eq_true rfl) ?_
    refine w_aload i8_setPoint_0 rfl ?_
    refine w_iload i8_setPoint_1 rfl ?_
    refine w_cVP i8_setPoint_2 f8_isColumn v8_isColumn (r_isColumn (by omega) n2 (by omega)) rfl rfl (by decide) rfl rfl (Nat.le_of_ble_eq_true rfl) (by omega) (fun v1 hv1 => ?_)
    refine w_ifeq i8_setPoint_5 (fun h_ => absurd h_ (by rcases hv1 with h | h <;> omega)) (fun h5 => ?_)
    refine w_iload i8_setPoint_8 rfl ?_
    refine w_const i8_setPoint_9 ?_
    refine w_const i8_setPoint_10 ?_
    refine w_cSP i8_setPoint_11 f8_in v8_in r_in rfl rfl (Nat.le_of_ble_eq_true rfl) (by omega) (fun v2 hv2 => ?_)
    refine w_ifne i8_setPoint_14 (fun h14 => ?_) (fun h_ => absurd h_ (by rcases hv2 with h | h <;> omega))
    refine w_aload i8_setPoint_21 rfl ?_
    refine w_cVU i8_setPoint_22 f8_keep v8_keep (r_keep h) rfl rfl (by decide) rfl rfl (Nat.le_of_ble_eq_true rfl) (by omega) (fun I1 F1 hq => ?_)
    have k5 := hq.1.1.2.2.2.2.2.2.1 x (by omega)
    refine w_aload i8_setPoint_25 rfl ?_
    refine w_getr i8_setPoint_26 rfl rfl ?_
    refine w_const i8_setPoint_29 ?_
    refine w_iload i8_setPoint_31 rfl ?_
    refine w_iadd i8_setPoint_32 (by omega) ?_
    refine w_iald i8_setPoint_33 rfl (by omega) ?_
    refine w_is3 i8_setPoint_34 ?_
    refine w_aload i8_setPoint_35 rfl ?_
    refine w_getr i8_setPoint_36 rfl rfl ?_
    refine w_const i8_setPoint_39 ?_
    refine w_iload i8_setPoint_41 rfl ?_
    refine w_iadd i8_setPoint_42 (by omega) ?_
    refine w_iload i8_setPoint_43 rfl ?_
    refine w_iast i8_setPoint_44 rfl (by omega) ?_
    refine w_iload i8_setPoint_45 rfl ?_
    refine w_iret i8_setPoint_46 (Or.inl rfl) ⟨Nat.le_refl _, Nat.le_refl _⟩ ?_
    exact ⟨rfl, _, rfl, k5, hq.1.wY hc.1 hc.2⟩
  · simp only [if_neg hc]
    refine MS_of (ls := [lr 0, li x, li y, lu]) f8_setPoint rfl rfl (Nat.le_of_ble_eq_true rfl) ?_
    refine w_aload i8_setPoint_0 rfl ?_
    refine w_iload i8_setPoint_1 rfl ?_
    refine w_cVP i8_setPoint_2 f8_isColumn v8_isColumn (r_isColumn (by omega) n2 (by omega)) rfl rfl (by decide) rfl rfl (Nat.le_of_ble_eq_true rfl) (by omega) (fun v1 hv1 => ?_)
    refine w_ifeq i8_setPoint_5 (fun h5 => ?_) (fun h5 => ?_)
    · refine w_const i8_setPoint_17 ?_
      refine w_iret i8_setPoint_20 (Or.inl rfl) ⟨Nat.le_refl _, Nat.le_refl _⟩ ?_
      exact ⟨rfl, _, rfl, rfl, h⟩
    · refine w_iload i8_setPoint_8 rfl ?_
      refine w_const i8_setPoint_9 ?_
      refine w_const i8_setPoint_10 ?_
      refine w_cSP i8_setPoint_11 f8_in v8_in r_in rfl rfl (Nat.le_of_ble_eq_true rfl) (by omega) (fun v2 hv2 => ?_)
      refine w_ifne i8_setPoint_14 (fun h_ => absurd h_ (by rcases hv1 with h | h <;> rcases hv2 with g | g <;> omega)) (fun h14 => ?_)
      refine w_const i8_setPoint_17 ?_
      refine w_iret i8_setPoint_20 (Or.inl rfl) ⟨Nat.le_refl _, Nat.le_refl _⟩ ?_
      exact ⟨rfl, _, rfl, rfl, h⟩
theorem ons_16 {g : Nat → Int} {k : Nat} (hk : k ≤ 16) (h : ∀ i, k ≤ i → g i = 0) : ons g 16 = ons g k := by
  have key : ∀ j, k + j ≤ 16 → ons g (k + j) = ons g k := by
    intro j
    induction j with
    | zero => intro _; rfl
    | succ j ih =>
      intro hj
      show ons g (k + j) + g (k + j) = _
      rw [ih (by omega), h _ (by omega)]
      omega
  have := key (16 - k) (by omega)
  rw [show k + (16 - k) = 16 by omega] at this
  exact this
theorem lr_ac {d n0 : Nat} {Q : PQ} {I : IE} {F : FE} {g : Nat → Int} {c : Int} (h5 : I 0 5 = c) (hc : 0 ≤ c ∧ c ≤ 15) (hg : ∀ k : Nat, k < 160 → F 1 (18 + k) = g k) (h01 : ∀ k, g k = 0 ∨ g k = 1)
    (K : WS m8_activeCount d 0 0 n0 Q 0 0 30 [lr 0, li (ons g c.toNat), li c] [] shM I F) :
    ∀ (m k : Nat), (k + m : Int) = c → (0 ≤ ons g k ∧ ons g k ≤ k) → WS m8_activeCount d 0 0 n0 Q 0 0 4 [lr 0, li (ons g k), li k] [] shM I F := by
  intro m
  induction m with
  | zero =>
    intro k hk hb
    obtain rfl : c = (k : Int) := by omega
    refine w_iload i8_activeCount_4 rfl ?_
    refine w_aload i8_activeCount_5 rfl ?_
    refine w_get i8_activeCount_6 rfl rfl ?_
    refine w_icmpge i8_activeCount_9 (fun h9 => ?_) (fun h_ => absurd h_ (by omega))
    exact K
  | succ m ih =>
    intro k hk hb
    have hgk := hg k (by omega)
    have h2 := h01 k
    have e : ons g (k + 1) = ons g k + g k := rfl
    refine w_iload i8_activeCount_4 rfl ?_
    refine w_aload i8_activeCount_5 rfl ?_
    refine w_get i8_activeCount_6 rfl rfl ?_
    refine w_icmpge i8_activeCount_9 (fun h_ => absurd h_ (by omega)) (fun h9 => ?_)
    refine w_iload i8_activeCount_12 rfl ?_
    refine w_aload i8_activeCount_13 rfl ?_
    refine w_getr i8_activeCount_14 rfl rfl ?_
    refine w_const i8_activeCount_17 ?_
    refine w_iload i8_activeCount_19 rfl ?_
    refine w_iadd i8_activeCount_20 (by omega) ?_
    refine w_iald i8_activeCount_21 rfl (by omega) ?_
    rw [hgk]
    refine w_iadd i8_activeCount_22 (by omega) ?_
    refine w_is1 i8_activeCount_23 ?_
    refine w_ii2 i8_activeCount_24 (by omega) ?_
    refine w_goto i8_activeCount_27 ?_
    exact ih (k + 1) (by omega) (by rw [e]; omega)
theorem r_activeCount {d : Nat} {I : IE} {F : FE} {S : Sx} (h : DI S I F) : MR m8_activeCount d shM [rv 0] I F (ons (gA S.1) 16) := by
  have hb := h.2.1
  have hA := h.1.2.1
  have e := ons_16 (g := gA S.1) (k := (gk (gM S.1) (gC S.1)).toNat) (by have := hb.2.1; omega) (fun i hi => hA i (by have := hb.2.1; omega))
  rw [e]
  refine MS_of (ls := [lr 0, lu, lu]) f8_activeCount rfl rfl (Nat.le_of_ble_eq_true rfl) ?_
  refine w_const i8_activeCount_0 ?_
  refine w_is1 i8_activeCount_1 ?_
  refine w_const i8_activeCount_2 ?_
  refine w_is2 i8_activeCount_3 ?_
  refine lr_ac hb.1 hb.2.1 h.1.2.2.2.2.2.2.2 h.1.1.2.2.2.2.2.2.2.2 ?_ (gk (gM S.1) (gC S.1)).toNat 0 (by have := hb.2.1; omega) (by simp [ons])
  refine w_iload i8_activeCount_30 rfl ?_
  refine w_iret i8_activeCount_31 (Or.inl rfl) ⟨Nat.le_refl _, Nat.le_refl _⟩ ?_
  exact ⟨rfl, rfl, rfl, rfl⟩
theorem r_activate {d : Nat} {I : IE} {F : FE} {S : Sx} {x y : Int} (hd : 3 ≤ d) (h : DI S I F) : MB m8_activate d shM [rv 0, iv x, iv y] I F (fun v I' F' =>
    if (0 ≤ x ∧ x < gk (gM S.1) (gC S.1)) ∧ 0 ≤ y ∧ y ≤ 1 then (if gA S.1 x.toNat = y then v = -1002 ∧ DI S I' F' else v = ons (gA (wA (psh S) x.toNat y).1) 16 ∧ DI (wA (psh S) x.toNat y) I' F') else v = -1001 ∧ DI S I' F') := by
  have hb := h.2.1
  have hb2 := hb.2.1
  have h5 := hb.1
  obtain ⟨n1, n2, n3, n4, n5, n6⟩ := h.1.2.2
  by_cases hc : (0 ≤ x ∧ x < gk (gM S.1) (gC S.1)) ∧ 0 ≤ y ∧ y ≤ 1
  · simp only [if_pos hc]
    obtain ⟨e, rfl⟩ : ∃ e : Nat, x = (e : Int) := ⟨x.toNat, by omega⟩
    have e6 := n6 e (by omega)
    rw [show ((e : Int)).toNat = e by omega]
    by_cases hg : gA S.1 e = y
    · simp only [if_pos hg]
      refine MS_of (ls := [lr 0, li e, li y]) f8_activate rfl rfl (Nat.le_of_ble_eq_true rfl) ?_
      refine w_aload i8_activate_0 rfl ?_
      refine w_iload i8_activate_1 rfl ?_
      refine w_cVP i8_activate_2 f8_isElement v8_isElement (r_isElement (by omega) (by omega)) rfl rfl (by decide) rfl rfl (Nat.le_of_ble_eq_true rfl) (by omega) (fun v1 hv1 => ?_)
      refine w_ifeq i8_activate_5 (fun h_ => absurd h_ (by rcases hv1 with h | h <;> omega)) (fun h5 => ?_)
      refine w_iload i8_activate_8 rfl ?_
      refine w_const i8_activate_9 ?_
      refine w_const i8_activate_10 ?_
      refine w_cSP i8_activate_11 f8_in v8_in r_in rfl rfl (Nat.le_of_ble_eq_true rfl) (by omega) (fun v2 hv2 => ?_)
      refine w_ifne i8_activate_14 (fun h14 => ?_) (fun h_ => absurd h_ (by rcases hv2 with h | h <;> omega))
      refine w_aload i8_activate_21 rfl ?_
      refine w_getr i8_activate_22 rfl rfl ?_
      refine w_const i8_activate_25 ?_
      refine w_iload i8_activate_27 rfl ?_
      refine w_iadd i8_activate_28 (by omega) ?_
      refine w_iald i8_activate_29 rfl (by omega) ?_
      refine w_iload i8_activate_30 rfl ?_
      refine w_icmpne i8_activate_31 (fun h_ => absurd h_ (by omega)) (fun h31 => ?_)
      refine w_const i8_activate_34 ?_
      refine w_iret i8_activate_37 (Or.inl rfl) ⟨Nat.le_refl _, Nat.le_refl _⟩ ?_
      exact ⟨rfl, _, rfl, rfl, h⟩
    · simp only [if_neg hg]
      refine MS_of (ls := [lr 0, li e, li y]) f8_activate rfl rfl (Nat.le_of_ble_eq_true rfl) ?_
      refine w_aload i8_activate_0 rfl ?_
      refine w_iload i8_activate_1 rfl ?_
      refine w_cVP i8_activate_2 f8_isElement v8_isElement (r_isElement (by omega) (by omega)) rfl rfl (by decide) rfl rfl (Nat.le_of_ble_eq_true rfl) (by omega) (fun v1 hv1 => ?_)
      refine w_ifeq i8_activate_5 (fun h_ => absurd h_ (by rcases hv1 with h | h <;> omega)) (fun h5 => ?_)
      refine w_iload i8_activate_8 rfl ?_
      refine w_const i8_activate_9 ?_
      refine w_const i8_activate_10 ?_
      refine w_cSP i8_activate_11 f8_in v8_in r_in rfl rfl (Nat.le_of_ble_eq_true rfl) (by omega) (fun v2 hv2 => ?_)
      refine w_ifne i8_activate_14 (fun h14 => ?_) (fun h_ => absurd h_ (by rcases hv2 with h | h <;> omega))
      refine w_aload i8_activate_21 rfl ?_
      refine w_getr i8_activate_22 rfl rfl ?_
      refine w_const i8_activate_25 ?_
      refine w_iload i8_activate_27 rfl ?_
      refine w_iadd i8_activate_28 (by omega) ?_
      refine w_iald i8_activate_29 rfl (by omega) ?_
      refine w_iload i8_activate_30 rfl ?_
      refine w_icmpne i8_activate_31 (fun h31 => ?_) (fun h_ => absurd h_ (by omega))
      refine w_aload i8_activate_38 rfl ?_
      refine w_cVU i8_activate_39 f8_keep v8_keep (r_keep h) rfl rfl (by decide) rfl rfl (Nat.le_of_ble_eq_true rfl) (by omega) (fun I1 F1 hq => ?_)
      have hw := hq.1.wA (e := e) (v := y) (by show (e : Int) < gk (gM S.1) (gC S.1); omega) (by omega)
      refine w_aload i8_activate_42 rfl ?_
      refine w_getr i8_activate_43 rfl rfl ?_
      refine w_const i8_activate_46 ?_
      refine w_iload i8_activate_48 rfl ?_
      refine w_iadd i8_activate_49 (by omega) ?_
      refine w_iload i8_activate_50 rfl ?_
      refine w_iast i8_activate_51 rfl (by omega) ?_
      refine w_aload i8_activate_52 rfl ?_
      refine w_cVR i8_activate_53 f8_activeCount v8_activeCount (r_activeCount hw) rfl rfl (by decide) rfl rfl (Nat.le_of_ble_eq_true rfl) (by omega) ?_
      refine w_iret i8_activate_56 (Or.inl rfl) ⟨Nat.le_refl _, Nat.le_refl _⟩ ?_
      exact ⟨rfl, _, rfl, rfl, hw⟩
  · simp only [if_neg hc]
    refine MS_of (ls := [lr 0, li x, li y]) f8_activate rfl rfl (Nat.le_of_ble_eq_true rfl) ?_
    refine w_aload i8_activate_0 rfl ?_
    refine w_iload i8_activate_1 rfl ?_
    refine w_cVP i8_activate_2 f8_isElement v8_isElement (r_isElement (by omega) (by omega)) rfl rfl (by decide) rfl rfl (Nat.le_of_ble_eq_true rfl) (by omega) (fun v1 hv1 => ?_)
    refine w_ifeq i8_activate_5 (fun h5 => ?_) (fun h5 => ?_)
    · refine w_const i8_activate_17 ?_
      refine w_iret i8_activate_20 (Or.inl rfl) ⟨Nat.le_refl _, Nat.le_refl _⟩ ?_
      exact ⟨rfl, _, rfl, rfl, h⟩
    · refine w_iload i8_activate_8 rfl ?_
      refine w_const i8_activate_9 ?_
      refine w_const i8_activate_10 ?_
      refine w_cSP i8_activate_11 f8_in v8_in r_in rfl rfl (Nat.le_of_ble_eq_true rfl) (by omega) (fun v2 hv2 => ?_)
      refine w_ifne i8_activate_14 (fun h_ => absurd h_ (by rcases hv1 with h | h <;> rcases hv2 with g | g <;> omega)) (fun h14 => ?_)
      refine w_const i8_activate_17 ?_
      refine w_iret i8_activate_20 (Or.inl rfl) ⟨Nat.le_refl _, Nat.le_refl _⟩ ?_
      exact ⟨rfl, _, rfl, rfl, h⟩
theorem r_isActive {d : Nat} {I : IE} {F : FE} {S : Sx} {x : Int} (hd : 2 ≤ d) (h : DI S I F) : MR m8_isActive d shM [rv 0, iv x] I F (if 0 ≤ x ∧ x < gk (gM S.1) (gC S.1) then gA S.1 x.toNat else -1001) := by
  have hb := h.2.1
  have hb2 := hb.2.1
  have h5 := hb.1
  obtain ⟨n1, n2, n3, n4, n5, n6⟩ := h.1.2.2
  by_cases hc : 0 ≤ x ∧ x < gk (gM S.1) (gC S.1)
  · rw [if_pos hc]
    obtain ⟨e, rfl⟩ : ∃ e : Nat, x = (e : Int) := ⟨x.toNat, by omega⟩
    have e6 := n6 e (by omega)
    rw [show ((e : Int)).toNat = e by omega]
    refine MS_of (ls := [lr 0, li e]) f8_isActive rfl rfl (Nat.le_of_ble_eq_true rfl) ?_
    refine w_aload i8_isActive_0 rfl ?_
    refine w_iload i8_isActive_1 rfl ?_
    refine w_cVP i8_isActive_2 f8_isElement v8_isElement (r_isElement (by omega) (by omega)) rfl rfl (by decide) rfl rfl (Nat.le_of_ble_eq_true rfl) (by omega) (fun v1 hv1 => ?_)
    refine w_ifeq i8_isActive_5 (fun h_ => absurd h_ (by rcases hv1 with h | h <;> omega)) (fun h5 => ?_)
    refine w_aload i8_isActive_8 rfl ?_
    refine w_getr i8_isActive_9 rfl rfl ?_
    refine w_const i8_isActive_12 ?_
    refine w_iload i8_isActive_14 rfl ?_
    refine w_iadd i8_isActive_15 (by omega) ?_
    refine w_iald i8_isActive_16 rfl (by omega) ?_
    rw [e6]
    refine w_goto i8_isActive_17 ?_
    refine w_iret i8_isActive_23 (Or.inl rfl) ⟨Nat.le_refl _, Nat.le_refl _⟩ ?_
    exact ⟨rfl, rfl, rfl, rfl⟩
  · rw [if_neg hc]
    refine MS_of (ls := [lr 0, li x]) f8_isActive rfl rfl (Nat.le_of_ble_eq_true rfl) ?_
    refine w_aload i8_isActive_0 rfl ?_
    refine w_iload i8_isActive_1 rfl ?_
    refine w_cVP i8_isActive_2 f8_isElement v8_isElement (r_isElement (by omega) (by omega)) rfl rfl (by decide) rfl rfl (Nat.le_of_ble_eq_true rfl) (by omega) (fun v1 hv1 => ?_)
    refine w_ifeq i8_isActive_5 (fun h5 => ?_) (fun h_ => absurd h_ (by rcases hv1 with h | h <;> omega))
    refine w_const i8_isActive_20 ?_
    refine w_iret i8_isActive_23 (Or.inl rfl) ⟨Nat.le_refl _, Nat.le_refl _⟩ ?_
    exact ⟨rfl, rfl, rfl, rfl⟩
theorem lr_un {d n0 : Nat} {Q : PQ} {I : IE} {F : FE} {c : Int} (hc : 0 ≤ c ∧ c ≤ 7) (h2 : I 0 2 = c)
    (K : ∀ F', (∀ j, 0 ≤ j ∧ j < 178 → F' 1 j = F 2 (178 * c + j)) → (∀ a, a ≠ 1 → F' a = F a) → WS m8_undo d 0 0 n0 Q 0 0 57 [lr 0, li 178] [] shM I F') :
    ∀ (m k : Nat) (F' : FE), k + m = 178 → (∀ j, 0 ≤ j ∧ j < (k : Int) → F' 1 j = F 2 (178 * c + j)) → (∀ a, a ≠ 1 → F' a = F a) → WS m8_undo d 0 0 n0 Q 0 0 23 [lr 0, li k] [] shM I F' := by
  intro m
  induction m with
  | zero =>
    intro k F' hk h1 h3
    obtain rfl : k = 178 := by omega
    refine w_iload i8_undo_23 rfl ?_
    refine w_const i8_undo_24 ?_
    refine w_icmpge i8_undo_27 (fun h27 => ?_) (fun h_ => absurd h_ (by omega))
    exact K F' h1 h3
  | succ m ih =>
    intro k F' hk h1 h3
    have e2 : F' 2 = F 2 := h3 2 (by decide)
    refine w_iload i8_undo_23 rfl ?_
    refine w_const i8_undo_24 ?_
    refine w_icmpge i8_undo_27 (fun h_ => absurd h_ (by omega)) (fun h27 => ?_)
    refine w_aload i8_undo_30 rfl ?_
    refine w_getr i8_undo_31 rfl rfl ?_
    refine w_iload i8_undo_34 rfl ?_
    refine w_aload i8_undo_35 rfl ?_
    refine w_getr i8_undo_36 rfl rfl ?_
    refine w_const i8_undo_39 ?_
    refine w_aload i8_undo_42 rfl ?_
    refine w_get i8_undo_43 rfl rfl ?_
    rw [h2]
    refine w_imul i8_undo_46 (by omega) ?_
    refine w_iload i8_undo_47 rfl ?_
    refine w_iadd i8_undo_48 (by omega) ?_
    refine w_iald i8_undo_49 rfl (by omega) ?_
    refine w_iast i8_undo_50 rfl (by omega) ?_
    refine w_ii1 i8_undo_51 (by omega) ?_
    refine w_goto i8_undo_54 ?_
    refine ih (k + 1) _ (by omega) (fun j hj => ?_) (fun a ha => ?_)
    · simp only [upF, true_and]
      by_cases c1 : j = k
      · rw [if_pos c1, c1, e2]
      · rw [if_neg c1]; exact h1 j (by omega)
    · funext j
      simp only [upF, ha, false_and, if_false]
      rw [h3 a ha]
theorem r_undo {d : Nat} {I : IE} {F : FE} {S : Sx} (hG : CapG) (hB : BndG) (hd : 7 ≤ d) (h : DI S I F) : MB m8_undo d shM [rv 0] I F (fun v I' F' =>
    if S.2.1.1 = 0 then v = -1002 ∧ DI S I' F' else v = (S.2.1.1 : Int) - 1 ∧ DI (pop S) I' F') := by
  obtain ⟨t1, t2, t3⟩ := h.2.2.1
  by_cases hc : S.2.1.1 = 0
  · simp only [if_pos hc]
    refine MS_of (ls := [lr 0, lu]) f8_undo rfl rfl (Nat.le_of_ble_eq_true rfl) ?_
    refine w_aload i8_undo_0 rfl ?_
    refine w_get i8_undo_1 rfl rfl ?_
    refine w_ifne i8_undo_4 (fun h_ => absurd h_ (by omega)) (fun h4 => ?_)
    refine w_const i8_undo_7 ?_
    refine w_iret i8_undo_10 (Or.inl rfl) ⟨Nat.le_refl _, Nat.le_refl _⟩ ?_
    exact ⟨rfl, _, rfl, rfl, h⟩
  · simp only [if_neg hc]
    have e2 : I 0 2 - 1 = ((S.2.1.1 - 1 : Nat) : Int) := by omega
    have i2 : upI I 0 2 (I 0 2 - 1) 0 2 = ((S.2.1.1 - 1 : Nat) : Int) := by simp [upI]; omega
    obtain ⟨a1, a2, a3⟩ := t3 (S.2.1.1 - 1) (by omega)
    refine MS_of (ls := [lr 0, lu]) f8_undo rfl rfl (Nat.le_of_ble_eq_true rfl) ?_
    refine w_aload i8_undo_0 rfl ?_
    refine w_get i8_undo_1 rfl rfl ?_
    refine w_ifne i8_undo_4 (fun h4 => ?_) (fun h_ => absurd h_ (by omega))
    refine w_aload i8_undo_11 rfl ?_
    refine w_dup i8_undo_12 ?_
    refine w_get i8_undo_13 rfl rfl ?_
    refine w_const i8_undo_16 ?_
    refine w_isub i8_undo_17 (by omega) ?_
    refine w_put i8_undo_18 rfl rfl (Or.inl rfl) ?_
    refine w_const i8_undo_21 ?_
    refine w_is1 i8_undo_22 ?_
    refine lr_un (F := F) (c := ((S.2.1.1 - 1 : Nat) : Int)) (by omega) i2 (fun F1 p1 p3 => ?_) 178 0 F (by omega) (fun j hj => absurd hj (by omega)) (fun _ _ => rfl)
    have nb : NB (F1 1) (S.2.1.2 (S.2.1.1 - 1)) := a3.ext (fun j hj => p1 j hj)
    refine w_aload i8_undo_57 rfl ?_
    refine w_cVU i8_undo_58 f8_layBasis v8_layBasis (r_layBasis (M := gM (S.2.1.2 (S.2.1.1 - 1))) (n := gC (S.2.1.2 (S.2.1.1 - 1))) hG hB (by omega) ⟨nb.2.2.1, a1.2.2.1⟩ nb.2.1 a1.2.1 a1.hz) rfl rfl (by decide) rfl rfl (Nat.le_of_ble_eq_true rfl) (by omega) (fun I2 F2 hq => ?_)
    refine w_aload i8_undo_61 rfl ?_
    refine w_get i8_undo_62 rfl rfl ?_
    refine w_iret i8_undo_65 (Or.inl rfl) ⟨Nat.le_refl _, Nat.le_refl _⟩ ?_
    obtain ⟨⟨f1, f2⟩, q1, q2, q3, q4⟩ := hq
    have j2 : I2 0 2 = ((S.2.1.1 - 1 : Nat) : Int) := by rw [f1 0 2 (by omega), i2]
    have g1 : F2 1 = F1 1 := f2 1 (by decide) (by decide) (by decide)
    have g2 : F2 2 = F 2 := by rw [f2 2 (by decide) (by decide) (by decide), p3 2 (by decide)]
    refine ⟨rfl, _, rfl, by rw [j2]; omega, ⟨a1, a2, by rw [g1]; exact nb⟩, ⟨q1, q2, q3, q4⟩, ⟨j2, by show S.2.1.1 - 1 ≤ 8; omega, fun i hi => ?_⟩, DT.fr h.2.2.2 (by rw [f1 0 4 (by omega)]; simp only [upI]; rw [if_neg (by omega)]) (by rw [f2 3 (by decide) (by decide) (by decide), p3 3 (by decide)])⟩
    have hi' : i < S.2.1.1 - 1 := hi
    rw [g2]
    exact t3 i (by omega)
