def Circ (M : Int → Int) (n e : Int) : Prop := ∀ o, 0 ≤ o ∧ o < gk M n → ¬ zsub (gE M n o) (gE M n e) n
theorem zsub_ext {f f' g g' : Int → Int} {n : Int} (hf : ∀ j, 0 ≤ j ∧ j < n → f j = f' j) (hg : ∀ j, 0 ≤ j ∧ j < n → g j = g' j) (h : zsub f g n) : zsub f' g' n := by
  obtain ⟨h1, i, i0, i1, i2, i3⟩ := h
  exact ⟨fun j hj hne => by rw [← hg j hj]; exact h1 j hj (by rw [hf j hj]; exact hne), i, i0, i1, by rw [← hg i ⟨i0, i1⟩]; exact i2, by rw [← hf i ⟨i0, i1⟩]; exact i3⟩
noncomputable def wM (S : Sx) (i v : Int) : Sx := (nwm (gR S.1, gC S.1, fun j => if j = i then v else gM S.1 j, gZ S.1, gY S.1, gA S.1), S.2)
theorem s7_setEntry {d : Nat} {I : IE} {F : FE} {S : Sx} {x y z : Int} (hcap : CapB) (hd : 6 ≤ d) (h : CI S I F) : MB m7_setEntry d shX [rv 0, iv x, iv y, iv z] I F (fun v I' F' =>
    if ((0 ≤ x ∧ x < gR S.1) ∧ 0 ≤ y ∧ y < gC S.1) ∧ 0 ≤ z ∧ z ≤ 3 then (if gM S.1 (x * 4 + y) = z then v = -1002 ∧ CI S I' F' else v = gM S.1 (x * 4 + y) ∧ CI (wM (psh S) (x * 4 + y) z) I' F') else v = -1001 ∧ CI S I' F') := by
  obtain ⟨v, s1, s2, s3, s4, s5, s6⟩ := h.1
  have hn := v.2.1
  have hr := v.1
  by_cases hc : ((0 ≤ x ∧ x < gR S.1) ∧ 0 ≤ y ∧ y < gC S.1) ∧ 0 ≤ z ∧ z ≤ 3
  · simp only [if_pos hc]
    by_cases he : gM S.1 (x * 4 + y) = z
    · simp only [if_pos he]
      refine MS_of (ls := [lr 0, li x, li y, li z, lu]) f7_setEntry rfl rfl (Nat.le_of_ble_eq_true rfl) ?_
      refine w_aload i7_setEntry_0 rfl ?_
      refine w_iload i7_setEntry_1 rfl ?_
      refine w_cVP i7_setEntry_2 f7_isRow v7_isRow s7_isRow rfl rfl (by decide) rfl rfl (Nat.le_of_ble_eq_true rfl) (by omega) (fun v1 hv1 => ?_)
      rw [s1] at hv1
      refine w_ifeq i7_setEntry_5 (fun h_ => absurd h_ (by rcases hv1 with h | h <;> omega)) (fun h5 => ?_)
      refine w_aload i7_setEntry_8 rfl ?_
      refine w_iload i7_setEntry_9 rfl ?_
      refine w_cVP i7_setEntry_10 f7_isColumn v7_isColumn s7_isColumn rfl rfl (by decide) rfl rfl (Nat.le_of_ble_eq_true rfl) (by omega) (fun v2 hv2 => ?_)
      rw [s2] at hv2
      refine w_ifeq i7_setEntry_13 (fun h_ => absurd h_ (by rcases hv2 with h | h <;> omega)) (fun h13 => ?_)
      refine w_iload i7_setEntry_16 rfl ?_
      refine w_iflt i7_setEntry_17 (fun h_ => absurd h_ (by omega)) (fun h17 => ?_)
      refine w_iload i7_setEntry_20 rfl ?_
      refine w_const i7_setEntry_21 ?_
      refine w_icmple i7_setEntry_22 (fun h22 => ?_) (fun h_ => absurd h_ (by omega))
      refine w_aload i7_setEntry_29 rfl ?_
      refine w_getr i7_setEntry_30 rfl rfl ?_
      refine w_iload i7_setEntry_33 rfl ?_
      refine w_iload i7_setEntry_34 rfl ?_
      refine w_cVR i7_setEntry_35 f5_at v5_at (s5_at (by omega) (by omega)) rfl rfl (by decide) rfl rfl (Nat.le_of_ble_eq_true rfl) (by omega) ?_
      refine w_is4 i7_setEntry_38 ?_
      refine w_iload i7_setEntry_40 rfl ?_
      refine w_iload i7_setEntry_42 rfl ?_
      refine w_icmpne i7_setEntry_43 (fun h_ => absurd h_ (by rw [s3] at h_; omega)) (fun h43 => ?_)
      refine w_const i7_setEntry_46 ?_
      refine w_iret i7_setEntry_49 (Or.inl rfl) ⟨Nat.le_refl _, Nat.le_refl _⟩ ?_
      exact ⟨rfl, _, rfl, rfl, h⟩
    · simp only [if_neg he]
      refine MS_of (ls := [lr 0, li x, li y, li z, lu]) f7_setEntry rfl rfl (Nat.le_of_ble_eq_true rfl) ?_
      refine w_aload i7_setEntry_0 rfl ?_
      refine w_iload i7_setEntry_1 rfl ?_
      refine w_cVP i7_setEntry_2 f7_isRow v7_isRow s7_isRow rfl rfl (by decide) rfl rfl (Nat.le_of_ble_eq_true rfl) (by omega) (fun v1 hv1 => ?_)
      rw [s1] at hv1
      refine w_ifeq i7_setEntry_5 (fun h_ => absurd h_ (by rcases hv1 with h | h <;> omega)) (fun h5 => ?_)
      refine w_aload i7_setEntry_8 rfl ?_
      refine w_iload i7_setEntry_9 rfl ?_
      refine w_cVP i7_setEntry_10 f7_isColumn v7_isColumn s7_isColumn rfl rfl (by decide) rfl rfl (Nat.le_of_ble_eq_true rfl) (by omega) (fun v2 hv2 => ?_)
      rw [s2] at hv2
      refine w_ifeq i7_setEntry_13 (fun h_ => absurd h_ (by rcases hv2 with h | h <;> omega)) (fun h13 => ?_)
      refine w_iload i7_setEntry_16 rfl ?_
      refine w_iflt i7_setEntry_17 (fun h_ => absurd h_ (by omega)) (fun h17 => ?_)
      refine w_iload i7_setEntry_20 rfl ?_
      refine w_const i7_setEntry_21 ?_
      refine w_icmple i7_setEntry_22 (fun h22 => ?_) (fun h_ => absurd h_ (by omega))
      refine w_aload i7_setEntry_29 rfl ?_
      refine w_getr i7_setEntry_30 rfl rfl ?_
      refine w_iload i7_setEntry_33 rfl ?_
      refine w_iload i7_setEntry_34 rfl ?_
      refine w_cVR i7_setEntry_35 f5_at v5_at (s5_at (by omega) (by omega)) rfl rfl (by decide) rfl rfl (Nat.le_of_ble_eq_true rfl) (by omega) ?_
      refine w_is4 i7_setEntry_38 ?_
      refine w_iload i7_setEntry_40 rfl ?_
      refine w_iload i7_setEntry_42 rfl ?_
      refine w_icmpne i7_setEntry_43 (fun h43 => ?_) (fun h_ => absurd h_ (by rw [s3] at h_; omega))
      refine w_aload i7_setEntry_50 rfl ?_
      refine w_cVU i7_setEntry_51 f7_save v7_save (s7_save (by omega) h) rfl rfl (by decide) rfl rfl (Nat.le_of_ble_eq_true rfl) (by omega) (fun I1 F1 hq => ?_)
      obtain ⟨⟨t0, tH, tT, tB, tP⟩, h9⟩ := hq
      obtain ⟨⟨w1, w2, w3, w4, w5, w6, w7, w8, w9⟩, t1, t2, t3, t4, t5, t6⟩ := t0
      refine w_aload i7_setEntry_54 rfl ?_
      refine w_getr i7_setEntry_55 rfl rfl ?_
      refine w_iload i7_setEntry_58 rfl ?_
      refine w_iload i7_setEntry_59 rfl ?_
      refine w_iload i7_setEntry_60 rfl ?_
      refine w_cVU i7_setEntry_61 f5_put v5_put (s5_put (by omega) (by omega)) rfl rfl (by decide) rfl rfl (Nat.le_of_ble_eq_true rfl) (by omega) (fun I2 F2 hp => ?_)
      obtain ⟨eI, eF⟩ := hp
      have u2 : ∀ a, a ≠ 2 → F2 a = F1 a := fun a ha => by rw [eF]; funext j; simp only [upF, ha, false_and, if_false]
      refine w_aload i7_setEntry_64 rfl ?_
      refine w_cVU i7_setEntry_65 f7_takeNewMatrix v7_takeNewMatrix (s7_takeNewMatrix (σ := (gR S.1, gC S.1, fun j => if j = x * 4 + y then z else gM S.1 j, gZ S.1, gY S.1, gA S.1)) hcap (by omega) ⟨w1, w2, fun j => by { show 0 ≤ (if j = x * 4 + y then z else gM S.1 j) ∧ (if j = x * 4 + y then z else gM S.1 j) ≤ 3; split; exact hc.2; exact w3 j }, fun j hj => by { show (if j = x * 4 + y then z else gM S.1 j) = 0; have hj' : j < 0 ∨ 8 ≤ j ∨ gC S.1 ≤ j % 4 ∨ gR S.1 ≤ j / 4 := hj; rw [if_neg (by omega)]; exact w4 j hj' }, w5, w6, w7, w8, w9⟩ (by rw [eI]; exact t1) (by rw [eI]; exact t2) (by rw [eF]; funext j; show upF F1 2 (x * 4 + y) z 2 j = if j = x * 4 + y then z else gM S.1 j; simp only [upF, true_and]; rw [t3]; rfl) (by rw [u2 3 (by decide)]; exact t4) (by rw [u2 4 (by decide)]; exact t5) (by rw [u2 43 (by decide)]; exact tB.2.2.1)) rfl rfl (by decide) rfl rfl (Nat.le_of_ble_eq_true rfl) (by omega) (fun I3 F3 hs => ?_)
      refine w_iload i7_setEntry_68 rfl ?_
      refine w_iret i7_setEntry_70 (Or.inl rfl) ⟨Nat.le_refl _, Nat.le_refl _⟩ ?_
      refine ⟨rfl, _, rfl, by rw [s3], ?_⟩
      obtain ⟨a1, a2, a3, a4⟩ := hs
      have ii : ∀ a k, a ≠ 1 → a ≠ 42 → I3 a k = I1 a k := fun a k h1 h2 => by rw [a3 a k h1 h2, eI]
      have ff : ∀ a, a ≠ 2 → a ≠ 43 → a ≠ 44 → a ≠ 45 → a ≠ 46 → F3 a = F1 a := fun a h0 h1 h2 h3 h4 => by rw [a4 a h1 h2 h3 h4, u2 a h0]
      exact ⟨a1, tH.fr (fun a k ha => ii a k (by omega) (by omega)) (fun a ha => ff a (by omega) (by omega) (by omega) (by omega) (by omega)), tT.fr (ii 39 0 (by decide) (by decide)) (ff 41 (by decide) (by decide) (by decide) (by decide) (by decide)), a2, Or.inl (by rw [ii 0 9 (by decide) (by decide)]; exact h9)⟩
  · simp only [if_neg hc]
    refine MS_of (ls := [lr 0, li x, li y, li z, lu]) f7_setEntry rfl rfl (Nat.le_of_ble_eq_true rfl) ?_
    refine w_aload i7_setEntry_0 rfl ?_
    refine w_iload i7_setEntry_1 rfl ?_
    refine w_cVP i7_setEntry_2 f7_isRow v7_isRow s7_isRow rfl rfl (by decide) rfl rfl (Nat.le_of_ble_eq_true rfl) (by omega) (fun v1 hv1 => ?_)
    rw [s1] at hv1
    refine w_ifeq i7_setEntry_5 (fun h5 => ?_) (fun h5 => ?_)
    · refine w_const i7_setEntry_25 ?_
      refine w_iret i7_setEntry_28 (Or.inl rfl) ⟨Nat.le_refl _, Nat.le_refl _⟩ ?_
      exact ⟨rfl, _, rfl, rfl, h⟩
    · refine w_aload i7_setEntry_8 rfl ?_
      refine w_iload i7_setEntry_9 rfl ?_
      refine w_cVP i7_setEntry_10 f7_isColumn v7_isColumn s7_isColumn rfl rfl (by decide) rfl rfl (Nat.le_of_ble_eq_true rfl) (by omega) (fun v2 hv2 => ?_)
      rw [s2] at hv2
      refine w_ifeq i7_setEntry_13 (fun h13 => ?_) (fun h13 => ?_)
      · refine w_const i7_setEntry_25 ?_
        refine w_iret i7_setEntry_28 (Or.inl rfl) ⟨Nat.le_refl _, Nat.le_refl _⟩ ?_
        exact ⟨rfl, _, rfl, rfl, h⟩
      · refine w_iload i7_setEntry_16 rfl ?_
        refine w_iflt i7_setEntry_17 (fun h17 => ?_) (fun h17 => ?_)
        · refine w_const i7_setEntry_25 ?_
          refine w_iret i7_setEntry_28 (Or.inl rfl) ⟨Nat.le_refl _, Nat.le_refl _⟩ ?_
          exact ⟨rfl, _, rfl, rfl, h⟩
        · refine w_iload i7_setEntry_20 rfl ?_
          refine w_const i7_setEntry_21 ?_
          refine w_icmple i7_setEntry_22 (fun h_ => absurd h_ (by rcases hv1 with h | h <;> rcases hv2 with g | g <;> omega)) (fun h22 => ?_)
          refine w_const i7_setEntry_25 ?_
          refine w_iret i7_setEntry_28 (Or.inl rfl) ⟨Nat.le_refl _, Nat.le_refl _⟩ ?_
          exact ⟨rfl, _, rfl, rfl, h⟩
noncomputable def cfg (S : Sx) (r c : Int) : Sx := (nwm (r, c, fun j => if 0 ≤ j ∧ j < 8 ∧ j % 4 < c ∧ j / 4 < r then 1 else 0, if gC S.1 = c then gZ S.1 else fun _ => 0, if gC S.1 = c then gY S.1 else fun _ => 0, gA S.1), S.2)
theorem s7_configure {d : Nat} {I : IE} {F : FE} {S : Sx} {x y : Int} (hcap : CapB) (hd : 6 ≤ d) (h : CI S I F) : MB m7_configure d shX [rv 0, iv x, iv y] I F (fun v I' F' =>
    if (1 ≤ x ∧ x ≤ 2) ∧ 2 ≤ y ∧ y ≤ 4 then v = gC S.1 ∧ CI (cfg (psh S) x y) I' F' else v = -1001 ∧ CI S I' F') := by
  obtain ⟨v, s1, s2, s3, s4, s5, s6⟩ := h.1
  by_cases hc : (1 ≤ x ∧ x ≤ 2) ∧ 2 ≤ y ∧ y ≤ 4
  · simp only [if_pos hc]
    refine MS_of (ls := [lr 0, li x, li y, lu]) f7_configure rfl rfl (Nat.le_of_ble_eq_true rfl) ?_
    refine w_iload i7_configure_0 rfl ?_
    refine w_const i7_configure_1 ?_
    refine w_icmplt i7_configure_2 (fun h_ => absurd h_ (by omega)) (fun h2 => ?_)
    refine w_iload i7_configure_5 rfl ?_
    refine w_const i7_configure_6 ?_
    refine w_icmpgt i7_configure_7 (fun h_ => absurd h_ (by omega)) (fun h7 => ?_)
    refine w_iload i7_configure_10 rfl ?_
    refine w_const i7_configure_11 ?_
    refine w_icmplt i7_configure_12 (fun h_ => absurd h_ (by omega)) (fun h12 => ?_)
    refine w_iload i7_configure_15 rfl ?_
    refine w_const i7_configure_16 ?_
    refine w_icmple i7_configure_17 (fun h17 => ?_) (fun h_ => absurd h_ (by omega))
    refine w_aload i7_configure_24 rfl ?_
    refine w_getr i7_configure_25 rfl rfl ?_
    refine w_get i7_configure_28 rfl rfl ?_
    refine w_is3 i7_configure_31 ?_
    refine w_aload i7_configure_32 rfl ?_
    refine w_cVU i7_configure_33 f7_save v7_save (s7_save (by omega) h) rfl rfl (by decide) rfl rfl (Nat.le_of_ble_eq_true rfl) (by omega) (fun I1 F1 hq => ?_)
    obtain ⟨⟨t0, tH, tT, tB, tP⟩, h9⟩ := hq
    obtain ⟨⟨w1, w2, w3, w4, w5, w6, w7, w8, w9⟩, t1, t2, t3, t4, t5, t6⟩ := t0
    refine w_aload i7_configure_36 rfl ?_
    refine w_getr i7_configure_37 rfl rfl ?_
    refine w_iload i7_configure_40 rfl ?_
    refine w_iload i7_configure_41 rfl ?_
    refine w_cVU i7_configure_42 f5_reshape v5_reshape s5_reshape rfl rfl (by decide) rfl rfl (Nat.le_of_ble_eq_true rfl) (by omega) (fun I2 F2 hp => ?_)
    obtain ⟨eI, eF⟩ := hp
    have i0 : I2 1 0 = x := by rw [eI]; simp [upI]
    have i1 : I2 1 1 = y := by rw [eI]; simp [upI]
    have ii : ∀ a k, a ≠ 1 → I2 a k = I1 a k := fun a k ha => by rw [eI]; simp only [upI]; rw [if_neg (by omega), if_neg (by omega)]
    refine w_aload i7_configure_45 rfl ?_
    refine w_getr i7_configure_46 rfl rfl ?_
    refine w_cVU i7_configure_49 f5_fillWithOnes v5_fillWithOnes (s5_fillWithOnes (by omega) (by omega) (by omega)) rfl rfl (by decide) rfl rfl (Nat.le_of_ble_eq_true rfl) (by omega) (fun I3 F3 hr => ?_)
    obtain ⟨eI3, eF3⟩ := hr
    have g2 : F3 2 = fun j => if 0 ≤ j ∧ j < 8 ∧ j % 4 < y ∧ j / 4 < x then 1 else 0 := by
      funext j
      rw [eF3, i0, i1, eF]
      simp only [of2, zf2, true_and]
      by_cases hj : 0 ≤ j ∧ j < 8
      · by_cases hk : j % 4 < y ∧ j / 4 < x
        · rw [if_pos (by omega), if_pos (by omega)]
        · rw [if_neg (by omega), if_pos (by omega), if_neg (by omega)]
      · rw [if_neg (by omega), if_neg (by omega), show (if 0 ≤ j ∧ j < 8 ∧ j % 4 < y ∧ j / 4 < x then (1 : Int) else 0) = 0 from if_neg (by omega)]
        have e0 : F1 2 j = 0 := by rw [t3]; exact w4 j (by omega)
        split
        · exact e0
        · simp only [zf34]; rw [if_neg (by omega)]; exact e0
    have hne : ∀ a, a ≠ 2 → F3 a = (if I1 1 1 = y then F1 else zf34 F1 4) a := fun a ha => by
      rw [eF3, eF]
      funext j
      simp only [of2, zf2, ha, false_and, if_false]
    have t2' : I1 1 1 = gC S.1 := t2
    rw [t2'] at hne
    have zz : ∀ (a : Nat) (g : Int → Int), a = 3 ∨ a = 4 → F1 a = g → (∀ j, (j < 0 ∨ gC S.1 ≤ j) → g j = 0) → F3 a = if gC S.1 = y then g else fun _ => 0 := fun a g ha hg h0 => by
      rw [hne a (by omega)]
      by_cases e : gC S.1 = y
      · rw [if_pos e, if_pos e]; exact hg
      · rw [if_neg e, if_neg e]
        funext j
        simp only [zf34]
        split
        · rfl
        · rw [hg]; exact h0 j (by have hw : 2 ≤ gC S.1 ∧ gC S.1 ≤ 4 := w2; omega)
    have g3 := zz 3 (gZ S.1) (Or.inl rfl) t4 w6
    have g4 := zz 4 (gY S.1) (Or.inr rfl) t5 w8
    have gn : ∀ a, a ≠ 2 → a ≠ 3 → a ≠ 4 → F3 a = F1 a := fun a h2 h3 h4 => by
      rw [hne a h2]
      split
      · rfl
      · funext j; simp only [zf34, h3, h4, or_self, false_and, if_false]
    have hSV : SV (x, y, (fun j => if 0 ≤ j ∧ j < 8 ∧ j % 4 < y ∧ j / 4 < x then 1 else 0), (if gC S.1 = y then gZ S.1 else fun _ => 0), (if gC S.1 = y then gY S.1 else fun _ => 0), gA S.1) := by
      refine ⟨hc.1, hc.2, fun j => ?_, fun j hj => ?_, fun j => ?_, fun j hj => ?_, fun j => ?_, fun j hj => ?_, w9⟩
      · show 0 ≤ (if 0 ≤ j ∧ j < 8 ∧ j % 4 < y ∧ j / 4 < x then (1 : Int) else 0) ∧ (if 0 ≤ j ∧ j < 8 ∧ j % 4 < y ∧ j / 4 < x then (1 : Int) else 0) ≤ 3
        split <;> omega
      · have hj' : j < 0 ∨ 8 ≤ j ∨ y ≤ j % 4 ∨ x ≤ j / 4 := hj
        exact if_neg (by omega)
      · show -30 ≤ (if gC S.1 = y then gZ S.1 else fun _ => 0) j ∧ (if gC S.1 = y then gZ S.1 else fun _ => 0) j ≤ 30
        split
        · exact w5 j
        · exact ⟨(by decide : (-30 : Int) ≤ 0), (by decide : (0 : Int) ≤ 30)⟩
      · show (if gC S.1 = y then gZ S.1 else fun _ => 0) j = 0
        have hj' : j < 0 ∨ y ≤ j := hj
        split
        · exact w6 j (by show j < 0 ∨ gC S.1 ≤ j; omega)
        · rfl
      · show 0 ≤ (if gC S.1 = y then gY S.1 else fun _ => 0) j ∧ (if gC S.1 = y then gY S.1 else fun _ => 0) j ≤ 5
        split
        · exact w7 j
        · exact ⟨(by decide : (0 : Int) ≤ 0), (by decide : (0 : Int) ≤ 5)⟩
      · show (if gC S.1 = y then gY S.1 else fun _ => 0) j = 0
        have hj' : j < 0 ∨ y ≤ j := hj
        split
        · exact w8 j (by show j < 0 ∨ gC S.1 ≤ j; omega)
        · rfl
    refine w_aload i7_configure_52 rfl ?_
    refine w_cVU i7_configure_53 f7_takeNewMatrix v7_takeNewMatrix (s7_takeNewMatrix hcap (by omega) hSV (by rw [eI3]; exact i0) (by rw [eI3]; exact i1) g2 g3 g4 (by rw [gn 43 (by decide) (by decide) (by decide)]; exact tB.2.2.1)) rfl rfl (by decide) rfl rfl (Nat.le_of_ble_eq_true rfl) (by omega) (fun I4 F4 hs => ?_)
    refine w_iload i7_configure_56 rfl ?_
    refine w_iret i7_configure_57 (Or.inl rfl) ⟨Nat.le_refl _, Nat.le_refl _⟩ ?_
    refine ⟨rfl, _, rfl, s2, ?_⟩
    obtain ⟨a1, a2, a3, a4⟩ := hs
    have ii' : ∀ a k, a ≠ 1 → a ≠ 42 → I4 a k = I1 a k := fun a k h1 h2 => by rw [a3 a k h1 h2, eI3, ii a k h1]
    have ff : ∀ a, a ≠ 2 → a ≠ 3 → a ≠ 4 → a ≠ 43 → a ≠ 44 → a ≠ 45 → a ≠ 46 → F4 a = F1 a := fun a h2 h3 h4 h5 h6 h7 h8 => by rw [a4 a h5 h6 h7 h8, gn a h2 h3 h4]
    exact ⟨a1, tH.fr (fun a k ha => ii' a k (by omega) (by omega)) (fun a ha => ff a (by omega) (by omega) (by omega) (by omega) (by omega) (by omega) (by omega)), tT.fr (ii' 39 0 (by decide) (by decide)) (ff 41 (by decide) (by decide) (by decide) (by decide) (by decide) (by decide) (by decide)), a2, Or.inl (by rw [ii' 0 9 (by decide) (by decide)]; exact h9)⟩
  · simp only [if_neg hc]
    refine MS_of (ls := [lr 0, li x, li y, lu]) f7_configure rfl rfl (Nat.le_of_ble_eq_true rfl) ?_
    refine w_iload i7_configure_0 rfl ?_
    refine w_const i7_configure_1 ?_
    refine w_icmplt i7_configure_2 (fun h2 => ?_) (fun h2 => ?_)
    · refine w_const i7_configure_20 ?_
      refine w_iret i7_configure_23 (Or.inl rfl) ⟨Nat.le_refl _, Nat.le_refl _⟩ ?_
      exact ⟨rfl, _, rfl, rfl, h⟩
    · refine w_iload i7_configure_5 rfl ?_
      refine w_const i7_configure_6 ?_
      refine w_icmpgt i7_configure_7 (fun h7 => ?_) (fun h7 => ?_)
      · refine w_const i7_configure_20 ?_
        refine w_iret i7_configure_23 (Or.inl rfl) ⟨Nat.le_refl _, Nat.le_refl _⟩ ?_
        exact ⟨rfl, _, rfl, rfl, h⟩
      · refine w_iload i7_configure_10 rfl ?_
        refine w_const i7_configure_11 ?_
        refine w_icmplt i7_configure_12 (fun h12 => ?_) (fun h12 => ?_)
        · refine w_const i7_configure_20 ?_
          refine w_iret i7_configure_23 (Or.inl rfl) ⟨Nat.le_refl _, Nat.le_refl _⟩ ?_
          exact ⟨rfl, _, rfl, rfl, h⟩
        · refine w_iload i7_configure_15 rfl ?_
          refine w_const i7_configure_16 ?_
          refine w_icmple i7_configure_17 (fun h_ => absurd h_ (by omega)) (fun h17 => ?_)
          refine w_const i7_configure_20 ?_
          refine w_iret i7_configure_23 (Or.inl rfl) ⟨Nat.le_refl _, Nat.le_refl _⟩ ?_
          exact ⟨rfl, _, rfl, rfl, h⟩
