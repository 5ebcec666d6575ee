theorem lr_bg1 {d n0 : Nat} {Q : PQ} {I : IE} {F : FE} {r c : Int}
    (K : ∀ x F', (∀ j, (10 ≤ j ∧ j < 18) → F' 1 j = 0) → (∀ j, ¬ (10 ≤ j ∧ j < 18) → F' 1 j = F 1 j) → (∀ a, a ≠ 1 → F' a = F a) → WS m8_begin d 0 0 n0 Q 0 0 43 [lr 0, li r, li c, x] [] shM I F') :
    ∀ (m k : Nat) (F' : FE), k + m = 4 → (∀ j, (10 ≤ j ∧ j < 10 + (k : Int) ∨ 14 ≤ j ∧ j < 14 + (k : Int)) → F' 1 j = 0) → (∀ j, ¬ (10 ≤ j ∧ j < 18) → F' 1 j = F 1 j) → (∀ a, a ≠ 1 → F' a = F a) → WS m8_begin d 0 0 n0 Q 0 0 12 [lr 0, li r, li c, li k] [] shM I F' := by
  intro m
  induction m with
  | zero =>
    intro k F' hk h1 h2 h3
    obtain rfl : k = 4 := by omega
    refine w_iload i8_begin_12 rfl ?_
    refine w_const i8_begin_13 ?_
    refine w_icmpge i8_begin_14 (fun h14 => ?_) (fun h_ => absurd h_ (by omega))
    exact K _ F' (fun j hj => h1 j (by omega)) h2 h3
  | succ m ih =>
    intro k F' hk h1 h2 h3
    refine w_iload i8_begin_12 rfl ?_
    refine w_const i8_begin_13 ?_
    refine w_icmpge i8_begin_14 (fun h_ => absurd h_ (by omega)) (fun h14 => ?_)
    refine w_aload i8_begin_17 rfl ?_
    refine w_getr i8_begin_18 rfl rfl ?_
    refine w_const i8_begin_21 ?_
    refine w_iload i8_begin_23 rfl ?_
    refine w_iadd i8_begin_24 (by omega) ?_
    refine w_const i8_begin_25 ?_
    refine w_iast i8_begin_26 rfl (by omega) ?_
    refine w_aload i8_begin_27 rfl ?_
    refine w_getr i8_begin_28 rfl rfl ?_
    refine w_const i8_begin_31 ?_
    refine w_iload i8_begin_33 rfl ?_
    refine w_iadd i8_begin_34 (by omega) ?_
    refine w_const i8_begin_35 ?_
    refine w_iast i8_begin_36 rfl (by omega) ?_
    refine w_ii3 i8_begin_37 (by omega) ?_
    refine w_goto i8_begin_40 ?_
    refine ih (k + 1) _ (by omega) (fun j hj => ?_) (fun j hj => ?_) (fun a ha => ?_)
    · simp only [upF, true_and]
      by_cases c1 : j = 14 + k
      · rw [if_pos c1]
      · rw [if_neg c1]
        by_cases c2 : j = 10 + k
        · rw [if_pos c2]
        · rw [if_neg c2]; exact h1 j (by omega)
    · simp only [upF, true_and]
      rw [if_neg (by omega), if_neg (by omega)]; exact h2 j hj
    · funext j
      simp only [upF, ha, false_and, if_false]
      rw [h3 a ha]
theorem lr_bg2 {d n0 : Nat} {Q : PQ} {I : IE} {F : FE} {r c : Int} (hr : 1 ≤ r ∧ r ≤ 2) (hc : 2 ≤ c ∧ c ≤ 4)
    (K : ∀ F', (∀ j, 0 ≤ j ∧ j < 8 → F' 1 (2 + j) = if 0 ≤ j ∧ j < 8 ∧ j % 4 < c ∧ j / 4 < r then 1 else 0) → (∀ j, ¬ (2 ≤ j ∧ j < 10) → F' 1 j = F 1 j) → (∀ a, a ≠ 1 → F' a = F a) → WS m8_begin d 0 0 n0 Q 0 0 98 [lr 0, li r, li c, li 8] [] shM I F') :
    ∀ (m k : Nat) (F' : FE), k + m = 8 → (∀ j, 0 ≤ j ∧ j < (k : Int) → F' 1 (2 + j) = if 0 ≤ j ∧ j < 8 ∧ j % 4 < c ∧ j / 4 < r then 1 else 0) → (∀ j, ¬ (2 ≤ j ∧ j < 10) → F' 1 j = F 1 j) → (∀ a, a ≠ 1 → F' a = F a) → WS m8_begin d 0 0 n0 Q 0 0 59 [lr 0, li r, li c, li k] [] shM I F' := by
  intro m
  induction m with
  | zero =>
    intro k F' hk h1 h2 h3
    obtain rfl : k = 8 := by omega
    refine w_iload i8_begin_59 rfl ?_
    refine w_const i8_begin_60 ?_
    refine w_icmpge i8_begin_62 (fun h62 => ?_) (fun h_ => absurd h_ (by omega))
    exact K F' h1 h2 h3
  | succ m ih =>
    intro k F' hk h1 h2 h3
    have ed : (k : Int).tdiv 4 = (k : Int) / 4 := Int.tdiv_eq_ediv_of_nonneg (by omega)
    have em : (k : Int).tmod 4 = (k : Int) % 4 := Int.tmod_eq_emod_of_nonneg (by omega)
    have step : ∀ v, v = (if 0 ≤ (k : Int) ∧ (k : Int) < 8 ∧ (k : Int) % 4 < c ∧ (k : Int) / 4 < r then (1 : Int) else 0) → WS m8_begin d 0 0 n0 Q 0 0 59 [lr 0, li r, li c, li ((k : Int) + 1)] [] shM I (upF F' 1 (2 + (k : Int)) v) := fun v hv => by
      refine ih (k + 1) _ (by omega) (fun j hj => ?_) (fun j hj => ?_) (fun a ha => ?_)
      · simp only [upF, true_and]
        by_cases c1 : j = k
        · rw [if_pos (by omega), c1]; exact hv
        · rw [if_neg (by omega)]; exact h1 j (by omega)
      · simp only [upF, true_and]
        rw [if_neg (by omega)]; exact h2 j hj
      · funext j
        simp only [upF, ha, false_and, if_false]
        rw [h3 a ha]
    refine w_iload i8_begin_59 rfl ?_
    refine w_const i8_begin_60 ?_
    refine w_icmpge i8_begin_62 (fun h_ => absurd h_ (by omega)) (fun h62 => ?_)
    refine w_aload i8_begin_65 rfl ?_
    refine w_getr i8_begin_66 rfl rfl ?_
    refine w_const i8_begin_69 ?_
    refine w_iload i8_begin_70 rfl ?_
    refine w_iadd i8_begin_71 (by omega) ?_
    refine w_iload i8_begin_72 rfl ?_
    refine w_const i8_begin_73 ?_
    refine w_idiv i8_begin_74 (by decide) ((by rw [ed]; constructor <;> omega)) ?_
    rw [ed]
    refine w_iload i8_begin_75 rfl ?_
    refine w_icmpge i8_begin_76 (fun h76 => ?_) (fun h76 => ?_)
    · refine w_const i8_begin_90 ?_
      refine w_iast i8_begin_91 rfl (by omega) ?_
      refine w_ii3 i8_begin_92 (by omega) ?_
      refine w_goto i8_begin_95 ?_
      first
      | (refine step 1 ?_
         rw [if_pos (by omega)])
      | (refine step 0 ?_
         rw [if_neg (by omega)])
    · refine w_iload i8_begin_79 rfl ?_
      refine w_const i8_begin_80 ?_
      refine w_irem i8_begin_81 (by decide) ((by rw [em]; constructor <;> omega)) ?_
      rw [em]
      refine w_iload i8_begin_82 rfl ?_
      refine w_icmpge i8_begin_83 (fun h83 => ?_) (fun h83 => ?_)
      · refine w_const i8_begin_90 ?_
        refine w_iast i8_begin_91 rfl (by omega) ?_
        refine w_ii3 i8_begin_92 (by omega) ?_
        refine w_goto i8_begin_95 ?_
        first
        | (refine step 1 ?_
           rw [if_pos (by omega)])
        | (refine step 0 ?_
           rw [if_neg (by omega)])
      · refine w_const i8_begin_86 ?_
        refine w_goto i8_begin_87 ?_
        refine w_iast i8_begin_91 rfl (by omega) ?_
        refine w_ii3 i8_begin_92 (by omega) ?_
        refine w_goto i8_begin_95 ?_
        first
        | (refine step 1 ?_
           rw [if_pos (by omega)])
        | (refine step 0 ?_
           rw [if_neg (by omega)])
/-- a matrix of ones is begun -/
theorem r_begin {d : Nat} {I : IE} {F : FE} {S : Sx} {r c : Int} (hG : CapG) (hB : BndG) (hd : 8 ≤ d) (hr : 1 ≤ r ∧ r ≤ 2) (hc : 2 ≤ c ∧ c ≤ 4) (h : DS S.1 F) : MU m8_begin d shM [rv 0, iv r, iv c] I F (fun I' F' => DS (newm S r c (fun _ => 1)).1 F' ∧ DB (newm S r c (fun _ => 1)).1 I' F' ∧ (∀ a k, (a ≠ 0 ∨ (k ≠ 5 ∧ k ≠ 8)) → I' a k = I a k) ∧ ∀ a, a ≠ 1 → a ≠ 4 → a ≠ 5 → a ≠ 6 → F' a = F a) := by
  obtain ⟨hV, hA, n1, n2, n3, n4, n5, n6⟩ := h
  have hV' := SV_newm (S := S) (r := r) (c := c) (g := fun _ => 1) hV hr hc (fun _ => by decide)
  obtain ⟨v1, v2, v3, v4, v5, v6, v7, v8, v9⟩ := hV
  have tail : ∀ (x : Option AV) (F1 : FE), (∀ j, 0 ≤ j ∧ j < 4 → F1 1 (10 + j) = (if gC S.1 = c then gZ S.1 else fun _ => 0) j) → (∀ j, 0 ≤ j ∧ j < 4 → F1 1 (14 + j) = (if gC S.1 = c then gY S.1 else fun _ => 0) j) → (∀ a, a ≠ 1 → F1 a = F a) →
      WS m8_begin d 0 0 shM.length (fun r' sh' I' F' => sh' = shM ∧ r' = none ∧ DS (newm S r c (fun _ => 1)).1 F' ∧ DB (newm S r c (fun _ => 1)).1 I' F' ∧ (∀ a k, (a ≠ 0 ∨ (k ≠ 5 ∧ k ≠ 8)) → I' a k = I a k) ∧ ∀ a, a ≠ 1 → a ≠ 4 → a ≠ 5 → a ≠ 6 → F' a = F a) 0 0 43 [lr 0, li r, li c, x] [] shM I F1 := by
    intro x F1 g1 g2 g3
    refine w_aload i8_begin_43 rfl ?_
    refine w_getr i8_begin_44 rfl rfl ?_
    refine w_const i8_begin_47 ?_
    refine w_iload i8_begin_48 rfl ?_
    refine w_iast i8_begin_49 rfl (by omega) ?_
    refine w_aload i8_begin_50 rfl ?_
    refine w_getr i8_begin_51 rfl rfl ?_
    refine w_const i8_begin_54 ?_
    refine w_iload i8_begin_55 rfl ?_
    refine w_iast i8_begin_56 rfl (by omega) ?_
    refine w_const i8_begin_57 ?_
    refine w_is3 i8_begin_58 ?_
    refine lr_bg2 hr hc (fun F2 p1 p2 p3 => ?_) 8 0 _ (by omega) (fun j hj => absurd hj (by omega)) (fun _ _ => rfl) (fun _ _ => rfl)
    have q0 : F2 1 0 = r := by rw [p2 0 (by decide)]; simp [upF]
    have q1 : F2 1 1 = c := by rw [p2 1 (by decide)]; simp [upF]
    have q2 : ∀ j, 10 ≤ j → F2 1 j = F1 1 j := fun j hj => by rw [p2 j (by omega)]; simp only [upF, true_and]; rw [if_neg (by omega), if_neg (by omega)]
    refine w_aload i8_begin_98 rfl ?_
    refine w_cVU i8_begin_99 f8_changed v8_changed (r_changed hG hB (by omega) hV' q0 q1 p1 (fun j hj => by rw [q2 _ (by omega)]; exact g1 j hj) (fun j hj => by rw [q2 _ (by omega)]; exact g2 j hj)) rfl rfl (by decide) rfl rfl (Nat.le_of_ble_eq_true rfl) (by omega) (fun I3 F3 hq => ?_)
    refine w_vret i8_begin_102 rfl ⟨Nat.le_refl _, Nat.le_refl _⟩ ?_
    refine ⟨rfl, rfl, hq.1, hq.2.1, hq.2.2.1, fun a h1 h2 h3 h4 => ?_⟩
    rw [hq.2.2.2 a h1 h2 h3 h4, p3 a h1]
    funext j
    simp only [upF, h1, false_and, if_false]
    rw [g3 a h1]
  refine MS_of (ls := [lr 0, li r, li c, lu]) f8_begin rfl rfl (Nat.le_of_ble_eq_true rfl) ?_
  by_cases e : gC S.1 = c
  · refine w_iload i8_begin_0 rfl ?_
    refine w_aload i8_begin_1 rfl ?_
    refine w_getr i8_begin_2 rfl rfl ?_
    refine w_const i8_begin_5 ?_
    refine w_iald i8_begin_6 rfl (by omega) ?_
    refine w_icmpeq i8_begin_7 (fun h7 => ?_) (fun h_ => absurd h_ (by omega))
    refine tail _ F (fun j hj => ?_) (fun j hj => ?_) (fun _ _ => rfl)
    · rw [if_pos e]; exact n4 j hj
    · rw [if_pos e]; exact n5 j hj
  · refine w_iload i8_begin_0 rfl ?_
    refine w_aload i8_begin_1 rfl ?_
    refine w_getr i8_begin_2 rfl rfl ?_
    refine w_const i8_begin_5 ?_
    refine w_iald i8_begin_6 rfl (by omega) ?_
    refine w_icmpeq i8_begin_7 (fun h_ => absurd h_ (by omega)) (fun h7 => ?_)
    refine w_const i8_begin_10 ?_
    refine w_is3 i8_begin_11 ?_
    refine lr_bg1 (F := F) (fun x F1 p1 p2 p3 => ?_) 4 0 F (by omega) (fun j hj => absurd hj (by omega)) (fun _ _ => rfl) (fun _ _ => rfl)
    refine tail _ F1 (fun j hj => ?_) (fun j hj => ?_) p3
    · rw [if_neg e]; exact p1 _ (by omega)
    · rw [if_neg e]; exact p1 _ (by omega)
theorem cfg_newm (S : Sx) (r c : Int) : cfg S r c = newm S r c (fun _ => 1) := rfl
theorem r_configure {d : Nat} {I : IE} {F : FE} {S : Sx} {x y : Int} (hG : CapG) (hB : BndG) (hd : 9 ≤ d) (h : DI S I F) : MB m8_configure d shM [rv 0, iv x, iv y] I F (fun v I' F' =>
    if (1 ≤ x ∧ x ≤ 2) ∧ 2 ≤ y ∧ y ≤ 4 then v = gC S.1 ∧ DI (cfg (psh S) x y) I' F' else v = -1001 ∧ DI S I' F') := by
  by_cases hc : (1 ≤ x ∧ x ≤ 2) ∧ 2 ≤ y ∧ y ≤ 4
  · simp only [if_pos hc]
    refine MS_of (ls := [lr 0, li x, li y, lu]) f8_configure rfl rfl (Nat.le_of_ble_eq_true rfl) ?_
    refine w_iload i8_configure_0 rfl ?_
    refine w_const i8_configure_1 ?_
    refine w_const i8_configure_2 ?_
    refine w_cSP i8_configure_3 f8_in v8_in r_in rfl rfl (Nat.le_of_ble_eq_true rfl) (by omega) (fun v1 hv1 => ?_)
    refine w_ifeq i8_configure_6 (fun h_ => absurd h_ (by rcases hv1 with h | h <;> omega)) (fun h6 => ?_)
    refine w_iload i8_configure_9 rfl ?_
    refine w_const i8_configure_10 ?_
    refine w_const i8_configure_11 ?_
    refine w_cSP i8_configure_12 f8_in v8_in r_in rfl rfl (Nat.le_of_ble_eq_true rfl) (by omega) (fun v2 hv2 => ?_)
    refine w_ifne i8_configure_15 (fun h15 => ?_) (fun h_ => absurd h_ (by rcases hv2 with h | h <;> omega))
    refine w_aload i8_configure_22 rfl ?_
    refine w_cVU i8_configure_23 f8_keep v8_keep (r_keep h) rfl rfl (by decide) rfl rfl (Nat.le_of_ble_eq_true rfl) (by omega) (fun I1 F1 hq => ?_)
    have e1 : F1 1 1 = gC S.1 := hq.1.1.2.2.2.1
    refine w_aload i8_configure_26 rfl ?_
    refine w_getr i8_configure_27 rfl rfl ?_
    refine w_const i8_configure_30 ?_
    refine w_iald i8_configure_31 rfl (by omega) ?_
    rw [e1]
    refine w_is3 i8_configure_32 ?_
    refine w_aload i8_configure_33 rfl ?_
    refine w_iload i8_configure_34 rfl ?_
    refine w_iload i8_configure_35 rfl ?_
    refine w_cVU i8_configure_36 f8_begin v8_begin (r_begin hG hB (by omega) hc.1 hc.2 hq.1.1) rfl rfl (by decide) rfl rfl (Nat.le_of_ble_eq_true rfl) (by omega) (fun I2 F2 hr => ?_)
    refine w_iload i8_configure_39 rfl ?_
    refine w_iret i8_configure_40 (Or.inl rfl) ⟨Nat.le_refl _, Nat.le_refl _⟩ ?_
    refine ⟨rfl, _, rfl, rfl, hr.1, hr.2.1, DH.fr hq.1.2.2.1 (hr.2.2.1 0 2 (by omega)) (hr.2.2.2 2 (by decide) (by decide) (by decide) (by decide)), DT.fr hq.1.2.2.2 (hr.2.2.1 0 4 (by omega)) (hr.2.2.2 3 (by decide) (by decide) (by decide) (by decide))⟩
  · simp only [if_neg hc]
    refine MS_of (ls := [lr 0, li x, li y, lu]) f8_configure rfl rfl (Nat.le_of_ble_eq_true rfl) ?_
    refine w_iload i8_configure_0 rfl ?_
    refine w_const i8_configure_1 ?_
    refine w_const i8_configure_2 ?_
    refine w_cSP i8_configure_3 f8_in v8_in r_in rfl rfl (Nat.le_of_ble_eq_true rfl) (by omega) (fun v1 hv1 => ?_)
    refine w_ifeq i8_configure_6 (fun h6 => ?_) (fun h6 => ?_)
    · refine w_const i8_configure_18 ?_
      refine w_iret i8_configure_21 (Or.inl rfl) ⟨Nat.le_refl _, Nat.le_refl _⟩ ?_
      exact ⟨rfl, _, rfl, rfl, h⟩
    · refine w_iload i8_configure_9 rfl ?_
      refine w_const i8_configure_10 ?_
      refine w_const i8_configure_11 ?_
      refine w_cSP i8_configure_12 f8_in v8_in r_in rfl rfl (Nat.le_of_ble_eq_true rfl) (by omega) (fun v2 hv2 => ?_)
      refine w_ifne i8_configure_15 (fun h_ => absurd h_ (by rcases hv1 with h | h <;> rcases hv2 with g | g <;> omega)) (fun h15 => ?_)
      refine w_const i8_configure_18 ?_
      refine w_iret i8_configure_21 (Or.inl rfl) ⟨Nat.le_refl _, Nat.le_refl _⟩ ?_
      exact ⟨rfl, _, rfl, rfl, h⟩
theorem r_setEntry {d : Nat} {I : IE} {F : FE} {S : Sx} {x y z : Int} (hG : CapG) (hB : BndG) (hd : 8 ≤ d) (h : DI S I F) : MB m8_setEntry d shM [rv 0, iv x, iv y, iv z] I F (fun v I' F' =>
    if ((0 ≤ x ∧ x < gR S.1) ∧ 0 ≤ y ∧ y < gC S.1) ∧ 0 ≤ z ∧ z ≤ 3 then (if gM S.1 (x * 4 + y) = z then v = -1002 ∧ DI S I' F' else v = gM S.1 (x * 4 + y) ∧ DI (wM (psh S) (x * 4 + y) z) I' F') else v = -1001 ∧ DI S I' F') := by
  have hV := h.1.1
  have hr := hV.1
  have hn := hV.2.1
  have nm := h.1.nm
  obtain ⟨n1, n2, n3, n4, n5, n6⟩ := h.1.2.2
  by_cases hc : ((0 ≤ x ∧ x < gR S.1) ∧ 0 ≤ y ∧ y < gC S.1) ∧ 0 ≤ z ∧ z ≤ 3
  · simp only [if_pos hc]
    by_cases he : gM S.1 (x * 4 + y) = z
    · simp only [if_pos he]
      refine MS_of (ls := [lr 0, li x, li y, li z, lu]) f8_setEntry rfl rfl (Nat.le_of_ble_eq_true rfl) ?_
      refine w_aload i8_setEntry_0 rfl ?_
      refine w_iload i8_setEntry_1 rfl ?_
      refine w_iload i8_setEntry_2 rfl ?_
      refine w_cVP i8_setEntry_3 f8_isPlace v8_isPlace (r_isPlace (by omega) n1 (by omega) n2 (by omega)) rfl rfl (by decide) rfl rfl (Nat.le_of_ble_eq_true rfl) (by omega) (fun v1 hv1 => ?_)
      refine w_ifeq i8_setEntry_6 (fun h_ => absurd h_ (by rcases hv1 with h | h <;> omega)) (fun h6 => ?_)
      refine w_iload i8_setEntry_9 rfl ?_
      refine w_const i8_setEntry_10 ?_
      refine w_const i8_setEntry_11 ?_
      refine w_cSP i8_setEntry_12 f8_in v8_in r_in rfl rfl (Nat.le_of_ble_eq_true rfl) (by omega) (fun v2 hv2 => ?_)
      refine w_ifne i8_setEntry_15 (fun h15 => ?_) (fun h_ => absurd h_ (by rcases hv2 with h | h <;> omega))
      refine w_aload i8_setEntry_22 rfl ?_
      refine w_iload i8_setEntry_23 rfl ?_
      refine w_iload i8_setEntry_24 rfl ?_
      refine w_cVR i8_setEntry_25 f8_at v8_at (r_at nm (by omega) (by omega)) rfl rfl (by decide) rfl rfl (Nat.le_of_ble_eq_true rfl) (by omega) ?_
      refine w_is4 i8_setEntry_28 ?_
      refine w_iload i8_setEntry_30 rfl ?_
      refine w_iload i8_setEntry_32 rfl ?_
      refine w_icmpne i8_setEntry_33 (fun h_ => absurd h_ (by omega)) (fun h33 => ?_)
      refine w_const i8_setEntry_36 ?_
      refine w_iret i8_setEntry_39 (Or.inl rfl) ⟨Nat.le_refl _, Nat.le_refl _⟩ ?_
      exact ⟨rfl, _, rfl, rfl, h⟩
    · simp only [if_neg he]
      refine MS_of (ls := [lr 0, li x, li y, li z, lu]) f8_setEntry rfl rfl (Nat.le_of_ble_eq_true rfl) ?_
      refine w_aload i8_setEntry_0 rfl ?_
      refine w_iload i8_setEntry_1 rfl ?_
      refine w_iload i8_setEntry_2 rfl ?_
      refine w_cVP i8_setEntry_3 f8_isPlace v8_isPlace (r_isPlace (by omega) n1 (by omega) n2 (by omega)) rfl rfl (by decide) rfl rfl (Nat.le_of_ble_eq_true rfl) (by omega) (fun v1 hv1 => ?_)
      refine w_ifeq i8_setEntry_6 (fun h_ => absurd h_ (by rcases hv1 with h | h <;> omega)) (fun h6 => ?_)
      refine w_iload i8_setEntry_9 rfl ?_
      refine w_const i8_setEntry_10 ?_
      refine w_const i8_setEntry_11 ?_
      refine w_cSP i8_setEntry_12 f8_in v8_in r_in rfl rfl (Nat.le_of_ble_eq_true rfl) (by omega) (fun v2 hv2 => ?_)
      refine w_ifne i8_setEntry_15 (fun h15 => ?_) (fun h_ => absurd h_ (by rcases hv2 with h | h <;> omega))
      refine w_aload i8_setEntry_22 rfl ?_
      refine w_iload i8_setEntry_23 rfl ?_
      refine w_iload i8_setEntry_24 rfl ?_
      refine w_cVR i8_setEntry_25 f8_at v8_at (r_at nm (by omega) (by omega)) rfl rfl (by decide) rfl rfl (Nat.le_of_ble_eq_true rfl) (by omega) ?_
      refine w_is4 i8_setEntry_28 ?_
      refine w_iload i8_setEntry_30 rfl ?_
      refine w_iload i8_setEntry_32 rfl ?_
      refine w_icmpne i8_setEntry_33 (fun h33 => ?_) (fun h_ => absurd h_ (by omega))
      refine w_aload i8_setEntry_40 rfl ?_
      refine w_cVU i8_setEntry_41 f8_keep v8_keep (r_keep h) rfl rfl (by decide) rfl rfl (Nat.le_of_ble_eq_true rfl) (by omega) (fun I1 F1 hq => ?_)
      obtain ⟨⟨⟨hV1, hA1, k1, k2, k3, k4, k5, k6⟩, hB1, hH1, hT1⟩, hI, hF⟩ := hq
      obtain ⟨v1', v2', v3, v4, v5, v6, v7, v8, v9⟩ := hV
      have hV2 : SV (gR S.1, gC S.1, (fun j => if j = x * 4 + y then z else gM S.1 j), gZ S.1, gY S.1, gA S.1) := ⟨v1', v2', fun j => by { show 0 ≤ (if j = x * 4 + y then z else gM S.1 j) ∧ (if j = x * 4 + y then z else gM S.1 j) ≤ 3; split; exact hc.2; exact v3 j }, fun j hj => by { show (if j = x * 4 + y then z else gM S.1 j) = 0; have hj' : j < 0 ∨ 8 ≤ j ∨ gC S.1 ≤ j % 4 ∨ gR S.1 ≤ j / 4 := hj; rw [if_neg (by omega)]; exact v4 j hj' }, v5, v6, v7, v8, v9⟩
      have ex : 2 + 4 * x + y = 2 + (x * 4 + y) := by omega
      refine w_aload i8_setEntry_44 rfl ?_
      refine w_getr i8_setEntry_45 rfl rfl ?_
      refine w_const i8_setEntry_48 ?_
      refine w_const i8_setEntry_49 ?_
      refine w_iload i8_setEntry_50 rfl ?_
      refine w_imul i8_setEntry_51 (by omega) ?_
      refine w_iadd i8_setEntry_52 (by omega) ?_
      refine w_iload i8_setEntry_53 rfl ?_
      refine w_iadd i8_setEntry_54 (by omega) ?_
      refine w_iload i8_setEntry_55 rfl ?_
      rw [ex]
      refine w_iast i8_setEntry_56 rfl (by omega) ?_
      refine w_aload i8_setEntry_57 rfl ?_
      refine w_cVU i8_setEntry_58 f8_changed v8_changed (r_changed hG hB (by omega) hV2 (by simp only [upF, true_and]; rw [if_neg (by omega)]; exact k1) (by simp only [upF, true_and]; rw [if_neg (by omega)]; exact k2) (fun j hj => by show upF F1 1 (2 + (x * 4 + y)) z 1 (2 + j) = if j = x * 4 + y then z else gM S.1 j; simp only [upF, true_and]; by_cases c : j = x * 4 + y; rw [if_pos (by omega), if_pos c]; rw [if_neg (by omega), if_neg c]; exact k3 j hj) (fun j hj => by simp only [upF, true_and]; rw [if_neg (by omega)]; exact k4 j hj) (fun j hj => by simp only [upF, true_and]; rw [if_neg (by omega)]; exact k5 j hj)) rfl rfl (by decide) rfl rfl (Nat.le_of_ble_eq_true rfl) (by omega) (fun I2 F2 hr => ?_)
      refine w_iload i8_setEntry_61 rfl ?_
      refine w_iret i8_setEntry_63 (Or.inl rfl) ⟨Nat.le_refl _, Nat.le_refl _⟩ ?_
      have u : ∀ a, a ≠ 1 → upF F1 1 (2 + (x * 4 + y)) z a = F1 a := fun a ha => by funext j; simp only [upF, ha, false_and, if_false]
      exact ⟨rfl, _, rfl, rfl, hr.1, hr.2.1, DH.fr hH1 (hr.2.2.1 0 2 (by omega)) (by rw [hr.2.2.2 2 (by decide) (by decide) (by decide) (by decide), u 2 (by decide)]), DT.fr hT1 (hr.2.2.1 0 4 (by omega)) (by rw [hr.2.2.2 3 (by decide) (by decide) (by decide) (by decide), u 3 (by decide)])⟩
  · simp only [if_neg hc]
    refine MS_of (ls := [lr 0, li x, li y, li z, lu]) f8_setEntry rfl rfl (Nat.le_of_ble_eq_true rfl) ?_
    refine w_aload i8_setEntry_0 rfl ?_
    refine w_iload i8_setEntry_1 rfl ?_
    refine w_iload i8_setEntry_2 rfl ?_
    refine w_cVP i8_setEntry_3 f8_isPlace v8_isPlace (r_isPlace (by omega) n1 (by omega) n2 (by omega)) rfl rfl (by decide) rfl rfl (Nat.le_of_ble_eq_true rfl) (by omega) (fun v1 hv1 => ?_)
    refine w_ifeq i8_setEntry_6 (fun h6 => ?_) (fun h6 => ?_)
    · refine w_const i8_setEntry_18 ?_
      refine w_iret i8_setEntry_21 (Or.inl rfl) ⟨Nat.le_refl _, Nat.le_refl _⟩ ?_
      exact ⟨rfl, _, rfl, rfl, h⟩
    · refine w_iload i8_setEntry_9 rfl ?_
      refine w_const i8_setEntry_10 ?_
      refine w_const i8_setEntry_11 ?_
      refine w_cSP i8_setEntry_12 f8_in v8_in r_in rfl rfl (Nat.le_of_ble_eq_true rfl) (by omega) (fun v2 hv2 => ?_)
      refine w_ifne i8_setEntry_15 (fun h_ => absurd h_ (by rcases hv1 with h | h <;> rcases hv2 with g | g <;> omega)) (fun h15 => ?_)
      refine w_const i8_setEntry_18 ?_
      refine w_iret i8_setEntry_21 (Or.inl rfl) ⟨Nat.le_refl _, Nat.le_refl _⟩ ?_
      exact ⟨rfl, _, rfl, rfl, h⟩
