theorem lr_lt {d n0 : Nat} {Q : PQ} {I : IE} {F : FE} {x c r : Int} {g : Int → Int} (hr : 1 ≤ r ∧ r ≤ 2) (h10 : I 0 10 = r) (hc : F 7 0 = c) (hc4 : 2 ≤ c ∧ c ≤ 4) (hg : ∀ j, 0 ≤ j ∧ j < 4 * r → j % 4 < c → F 8 j = g j)
    (K : ∀ F', (∀ j, 0 ≤ j ∧ j < 4 * r → F' 1 (2 + j) = if j % 4 < c then g j else 0) → (∀ j, ¬ (2 ≤ j ∧ j < 2 + 4 * r) → F' 1 j = F 1 j) → (∀ a, a ≠ 1 → F' a = F a) → WS m8_loadText d 0 0 n0 Q 0 0 83 [lr 0, li x, li (4 * r)] [] shM I F') :
    ∀ (m k : Nat) (F' : FE), (k + m : Int) = 4 * r → (∀ j, 0 ≤ j ∧ j < (k : Int) → F' 1 (2 + j) = if j % 4 < c then g j else 0) → (∀ j, ¬ (2 ≤ j ∧ j < 2 + 4 * r) → F' 1 j = F 1 j) → (∀ a, a ≠ 1 → F' a = F a) → WS m8_loadText d 0 0 n0 Q 0 0 37 [lr 0, li x, li k] [] shM I F' := by
  intro m
  induction m with
  | zero =>
    intro k F' hk h1 h2 h3
    have ek : (k : Int) = 4 * r := by omega
    rw [ek] at h1 ⊢
    refine w_iload i8_loadText_37 rfl ?_
    refine w_const i8_loadText_38 ?_
    refine w_aload i8_loadText_39 rfl ?_
    refine w_get i8_loadText_40 rfl rfl ?_
    refine w_imul i8_loadText_43 ((by constructor <;> omega)) ?_
    refine w_icmpge i8_loadText_44 (fun h44 => ?_) (fun h_ => absurd h_ (by omega))
    exact K F' h1 h2 h3
  | succ m ih =>
    intro k F' hk h1 h2 h3
    have e7 : F' 7 0 = c := by rw [h3 7 (by decide)]; exact hc
    have e8 : F' 8 = F 8 := h3 8 (by decide)
    have em : (k : Int).tmod 4 = (k : Int) % 4 := Int.tmod_eq_emod_of_nonneg (by omega)
    have step : ∀ v, v = (if (k : Int) % 4 < c then g k else 0) → WS m8_loadText d 0 0 n0 Q 0 0 37 [lr 0, li x, li ((k : Int) + 1)] [] shM I (upF F' 1 (2 + (k : Int)) v) := fun v hv => by
      refine ih (k + 1) _ (by omega) (fun j hj => ?_) (fun j hj => ?_) (fun a ha => ?_)
      · simp only [upF, true_and]
        by_cases c1 : j = k
        · rw [if_pos (by omega), c1]; exact hv
        · rw [if_neg (by omega)]; exact h1 j (by omega)
      · simp only [upF, true_and]
        rw [if_neg (by omega)]; exact h2 j hj
      · funext j
        simp only [upF, ha, false_and, if_false]
        rw [h3 a ha]
    refine w_iload i8_loadText_37 rfl ?_
    refine w_const i8_loadText_38 ?_
    refine w_aload i8_loadText_39 rfl ?_
    refine w_get i8_loadText_40 rfl rfl ?_
    refine w_imul i8_loadText_43 ((by constructor <;> omega)) ?_
    refine w_icmpge i8_loadText_44 (fun h_ => absurd h_ (by omega)) (fun h44 => ?_)
    refine w_aload i8_loadText_47 rfl ?_
    refine w_getr i8_loadText_48 rfl rfl ?_
    refine w_const i8_loadText_51 ?_
    refine w_iload i8_loadText_52 rfl ?_
    refine w_iadd i8_loadText_53 (by omega) ?_
    refine w_iload i8_loadText_54 rfl ?_
    refine w_const i8_loadText_55 ?_
    refine w_irem i8_loadText_56 (by decide) ((by rw [em]; constructor <;> omega)) ?_
    rw [em]
    refine w_aload i8_loadText_57 rfl ?_
    refine w_getr i8_loadText_58 rfl rfl ?_
    refine w_const i8_loadText_61 ?_
    refine w_iald i8_loadText_62 rfl (by omega) ?_
    rw [e7]
    refine w_icmpge i8_loadText_63 (fun h63 => ?_) (fun h63 => ?_)
    · refine w_const i8_loadText_75 ?_
      refine w_iast i8_loadText_76 rfl (by omega) ?_
      refine w_ii2 i8_loadText_77 (by omega) ?_
      refine w_goto i8_loadText_80 ?_
      first
      | (have hlt : (k : Int) % 4 < c := by assumption
         refine step _ ?_
         rw [if_pos hlt, e8]
         exact hg k (by omega) hlt)
      | (refine step 0 ?_
         rw [if_neg (by omega)])
    · refine w_aload i8_loadText_66 rfl ?_
      refine w_getr i8_loadText_67 rfl rfl ?_
      refine w_iload i8_loadText_70 rfl ?_
      refine w_iald i8_loadText_71 rfl (by omega) ?_
      refine w_goto i8_loadText_72 ?_
      refine w_iast i8_loadText_76 rfl (by omega) ?_
      refine w_ii2 i8_loadText_77 (by omega) ?_
      refine w_goto i8_loadText_80 ?_
      first
      | (have hlt : (k : Int) % 4 < c := by assumption
         refine step _ ?_
         rw [if_pos hlt, e8]
         exact hg k (by omega) hlt)
      | (refine step 0 ?_
         rw [if_neg (by omega)])
theorem r_loadText {d : Nat} {I : IE} {F : FE} {S : Sx} (hG : CapG) (hB : BndG) (hd : 9 ≤ d) (h : DI S I F) : MB m8_loadText d shM [rv 0] I F (fun v I' F' =>
    (∃ w, 0 ≤ w ∧ PErr S.2.2.2 S.2.2.1 w ∧ v = -10 - w ∧ DI S I' F') ∨ ∃ p, prun S.2.2.2 S.2.2.1 = some p ∧ pend p ∧ v = p.1 ∧ DI (ldt (psh S) p) I' F') := by
  obtain ⟨t1, t2, t3⟩ := h.2.2.2
  have en1 : (I 0 4).toNat = S.2.2.1 := by omega
  have ext : ∀ j : Int, 0 ≤ j ∧ j < (S.2.2.1 : Int) → F 3 j = S.2.2.2 j := t3
  refine MS_of (ls := [lr 0, lu, lu]) f8_loadText rfl rfl (Nat.le_of_ble_eq_true rfl) ?_
  refine w_aload i8_loadText_0 rfl ?_
  refine w_cVB i8_loadText_1 f8_readsText v8_readsText (r_readsText (by omega) (by omega)) rfl rfl (by decide) rfl rfl (Nat.le_of_ble_eq_true rfl) (by omega) (fun w I1 F1 hq => ?_)
  obtain ⟨hf, hw⟩ := hq
  rw [en1] at hw
  have c1 : DI S I1 F1 := h.R hf
  have wb : -1009 ≤ w ∧ w ≤ 40 := by
    rcases hw with ⟨g0, ⟨k, p, g1, g2, g3, g4⟩ | ⟨p, g1, g2, g3⟩ | ⟨p, g1, g2, g3⟩⟩ | ⟨g, -⟩ <;> omega
  refine w_is1 i8_loadText_4 ?_
  refine w_iload i8_loadText_5 rfl ?_
  refine w_const i8_loadText_6 ?_
  refine w_icmpeq i8_loadText_9 (fun h9 => ?_) (fun h9 => ?_)
  · refine w_aload i8_loadText_17 rfl ?_
    refine w_cVU i8_loadText_18 f8_keep v8_keep (r_keep c1) rfl rfl (by decide) rfl rfl (Nat.le_of_ble_eq_true rfl) (by omega) (fun I2 F2 hq => ?_)
    obtain ⟨c2, hI2, hF2⟩ := hq
    obtain ⟨p, hp1, hp2, hp3⟩ : ∃ p, prun (F 3) S.2.2.1 = some p ∧ pend p ∧ TRr I1 F1 p := by rcases hw with ⟨g, -⟩ | ⟨-, g⟩; omega; exact g
    have hpk := prun_ok _ hp1
    obtain ⟨r1, r2, r3, r4, r5⟩ := id hp3
    obtain ⟨k1, k2, k3, k4, k5⟩ := id hpk
    have hpe : if p.1 = 1 then 2 ≤ p.2.1 else p.2.1 ≤ p.2.2.1 := hp2
    have hr12 : 1 ≤ p.1 ∧ p.1 ≤ 2 := by omega
    have hc24 : 2 ≤ p.2.1 ∧ p.2.1 ≤ 4 := by
      rcases k1 with ⟨g, -⟩ | ⟨g, g2, -⟩
      · rw [if_pos g] at hpe; omega
      · omega
    have j1 : I2 0 10 = p.1 := by rw [hI2 0 10 (by omega)]; exact r1
    have j2 : F2 7 0 = p.2.1 := by rw [hF2 7 (by decide)]; exact r2
    refine w_aload i8_loadText_21 rfl ?_
    refine w_aload i8_loadText_22 rfl ?_
    refine w_get i8_loadText_23 rfl rfl ?_
    rw [j1]
    refine w_aload i8_loadText_26 rfl ?_
    refine w_getr i8_loadText_27 rfl rfl ?_
    refine w_const i8_loadText_30 ?_
    refine w_iald i8_loadText_31 rfl (by omega) ?_
    rw [j2]
    refine w_cVU i8_loadText_32 f8_begin v8_begin (r_begin (S := psh S) hG hB (by omega) hr12 hc24 c2.1) rfl rfl (by decide) rfl rfl (Nat.le_of_ble_eq_true rfl) (by omega) (fun I3 F3 hq => ?_)
    obtain ⟨a1, a2, a3, a4⟩ := hq
    obtain ⟨hV3, hA3, n1, n2, n3, n4, n5, n6⟩ := a1
    have l1 : I3 0 10 = p.1 := by rw [a3 0 10 (by omega)]; exact j1
    have l2 : F3 7 0 = p.2.1 := by rw [a4 7 (by decide) (by decide) (by decide) (by decide)]; exact j2
    have l3 : F3 8 = F1 8 := by rw [a4 8 (by decide) (by decide) (by decide) (by decide), hF2 8 (by decide)]
    have dg : ∀ j, 0 ≤ j ∧ j < 4 * p.1 → j % 4 < p.2.1 → F3 8 j = p.2.2.2 j := fun j hj hj2 => by
      rw [l3]
      by_cases c : j < 4
      · exact r4 j (by omega)
      · rw [if_neg (by omega)] at hpe
        have := r5 (j - 4) (by omega)
        rw [show 4 + (j - 4) = j by omega] at this
        exact this
    refine w_const i8_loadText_35 ?_
    refine w_is2 i8_loadText_36 ?_
    refine lr_lt (x := w) hr12 l1 l2 hc24 dg (fun F4 p1 p2 p3 => ?_) (4 * p.1).toNat 0 F3 (by omega) (fun j hj => absurd hj (by omega)) (fun _ _ => rfl) (fun _ _ => rfl)
    have hSV := SV_newm (S := psh S) (r := p.1) (c := p.2.1) (g := p.2.2.2) c2.1.1 hr12 hc24 k5
    have m3 : ∀ j, 0 ≤ j ∧ j < 8 → F4 1 (2 + j) = if 0 ≤ j ∧ j < 8 ∧ j % 4 < p.2.1 ∧ j / 4 < p.1 then p.2.2.2 j else 0 := fun j hj => by
      by_cases c : j < 4 * p.1
      · rw [p1 j (by omega)]
        by_cases c4 : j % 4 < p.2.1
        · rw [if_pos c4, if_pos (by omega)]
        · rw [if_neg c4, if_neg (by omega)]
      · rw [p2 _ (by omega), n3 j hj]
        show (if 0 ≤ j ∧ j < 8 ∧ j % 4 < p.2.1 ∧ j / 4 < p.1 then (1 : Int) else 0) = _
        rw [if_neg (by omega), if_neg (by omega)]
    refine w_aload i8_loadText_83 rfl ?_
    refine w_cVU i8_loadText_84 f8_changed v8_changed (r_changed hG hB (by omega) hSV (by rw [p2 0 (by omega)]; exact n1) (by rw [p2 1 (by omega)]; exact n2) m3 (fun j hj => by rw [p2 _ (by omega)]; exact n4 j hj) (fun j hj => by rw [p2 _ (by omega)]; exact n5 j hj)) rfl rfl (by decide) rfl rfl (Nat.le_of_ble_eq_true rfl) (by omega) (fun I5 F5 hq => ?_)
    obtain ⟨b1, b2, b3, b4⟩ := hq
    refine w_aload i8_loadText_87 rfl ?_
    refine w_const i8_loadText_88 ?_
    refine w_put i8_loadText_89 rfl rfl (Or.inl rfl) ?_
    refine w_aload i8_loadText_92 rfl ?_
    refine w_get i8_loadText_93 rfl rfl ?_
    refine w_iret i8_loadText_96 (Or.inl rfl) ⟨Nat.le_refl _, Nat.le_refl _⟩ ?_
    have u : ∀ a k, (a ≠ 0 ∨ k ≠ 4) → upI I5 0 4 0 a k = I5 a k := fun a k ha => by simp only [upI]; rw [if_neg (by omega)]
    refine ⟨rfl, _, rfl, Or.inr ⟨p, by rw [← prun_ext _ ext]; exact hp1, hp2, by rw [u 0 10 (by omega), b3 0 10 (by omega)]; exact l1, ⟨b1.1, b1.2.1, b1.2.2⟩, DB.fr b2 (u 0 5 (by omega)) rfl, DH.fr c2.2.2.1 (by rw [u 0 2 (by omega), b3 0 2 (by omega), a3 0 2 (by omega)]) (by rw [b4 2 (by decide) (by decide) (by decide) (by decide), p3 2 (by decide), a4 2 (by decide) (by decide) (by decide) (by decide)]), ?_, Nat.zero_le _, fun j hj => absurd hj (by show ¬ (0 ≤ j ∧ j < ((0 : Nat) : Int)); omega)⟩⟩
    simp only [upI, and_self, if_true]
    rfl
  · refine w_const i8_loadText_12 ?_
    refine w_iload i8_loadText_14 rfl ?_
    refine w_isub i8_loadText_15 (by omega) ?_
    refine w_iret i8_loadText_16 (Or.inl rfl) ⟨Nat.le_refl _, Nat.le_refl _⟩ ?_
    have g : 0 ≤ w ∧ PErr (F 3) S.2.2.1 w := by rcases hw with g | ⟨g, -⟩; exact g; omega
    exact ⟨rfl, _, rfl, Or.inl ⟨w, g.1, PErr_ext ext g.2, rfl, c1⟩⟩
theorem r_entry {d : Nat} {I : IE} {F : FE} {S : Sx} {x y : Int} (hd : 3 ≤ d) (h : DI S I F) : MR m8_entry d shM [rv 0, iv x, iv y] I F (if (0 ≤ x ∧ x < gR S.1) ∧ 0 ≤ y ∧ y < gC S.1 then gM S.1 (x * 4 + y) else -1001) := by
  have hV := h.1.1
  have hr := hV.1
  have hn := hV.2.1
  have nm := h.1.nm
  obtain ⟨n1, n2, n3, n4, n5, n6⟩ := h.1.2.2
  by_cases hc : (0 ≤ x ∧ x < gR S.1) ∧ 0 ≤ y ∧ y < gC S.1
  · rw [if_pos hc]
    refine MS_of (ls := [lr 0, li x, li y]) f8_entry rfl rfl (Nat.le_of_ble_eq_true rfl) ?_
    refine w_aload i8_entry_0 rfl ?_
    refine w_iload i8_entry_1 rfl ?_
    refine w_iload i8_entry_2 rfl ?_
    refine w_cVP i8_entry_3 f8_isPlace v8_isPlace (r_isPlace (by omega) n1 (by omega) n2 (by omega)) rfl rfl (by decide) rfl rfl (Nat.le_of_ble_eq_true rfl) (by omega) (fun v1 hv1 => ?_)
    refine w_ifeq i8_entry_6 (fun h_ => absurd h_ (by rcases hv1 with h | h <;> omega)) (fun h6 => ?_)
    refine w_aload i8_entry_9 rfl ?_
    refine w_iload i8_entry_10 rfl ?_
    refine w_iload i8_entry_11 rfl ?_
    refine w_cVR i8_entry_12 f8_at v8_at (r_at nm (by omega) (by omega)) rfl rfl (by decide) rfl rfl (Nat.le_of_ble_eq_true rfl) (by omega) ?_
    refine w_goto i8_entry_15 ?_
    refine w_iret i8_entry_21 (Or.inl rfl) ⟨Nat.le_refl _, Nat.le_refl _⟩ ?_
    exact ⟨rfl, rfl, rfl, rfl⟩
  · rw [if_neg hc]
    refine MS_of (ls := [lr 0, li x, li y]) f8_entry rfl rfl (Nat.le_of_ble_eq_true rfl) ?_
    refine w_aload i8_entry_0 rfl ?_
    refine w_iload i8_entry_1 rfl ?_
    refine w_iload i8_entry_2 rfl ?_
    refine w_cVP i8_entry_3 f8_isPlace v8_isPlace (r_isPlace (by omega) n1 (by omega) n2 (by omega)) rfl rfl (by decide) rfl rfl (Nat.le_of_ble_eq_true rfl) (by omega) (fun v1 hv1 => ?_)
    refine w_ifeq i8_entry_6 (fun h6 => ?_) (fun h_ => absurd h_ (by rcases hv1 with h | h <;> omega))
    refine w_const i8_entry_18 ?_
    refine w_iret i8_entry_21 (Or.inl rfl) ⟨Nat.le_refl _, Nat.le_refl _⟩ ?_
    exact ⟨rfl, rfl, rfl, rfl⟩
theorem r_rank {d : Nat} {I : IE} {F : FE} {S : Sx} (hd : 2 ≤ d) (h : DI S I F) : MR m8_rank d shM [rv 0] I F (grk (gM S.1) (gC S.1)) := by
  have hV := h.1.1
  have hn := hV.2.1
  obtain ⟨b0, b, hP, -⟩ := h.2.1.2.2.2
  refine MS_of (ls := [lr 0]) f8_rank rfl rfl (Nat.le_of_ble_eq_true rfl) ?_
  refine w_aload i8_rank_0 rfl ?_
  refine w_cVP i8_rank_1 f8_rankOf v8_rankOf (r_rankOf (by omega) h.1.nm (by omega) hV.hz) rfl rfl (by decide) rfl rfl (Nat.le_of_ble_eq_true rfl) (by omega) (fun r hr => ?_)
  refine w_iret i8_rank_4 (Or.inl rfl) ⟨Nat.le_refl _, Nat.le_refl _⟩ ?_
  obtain ⟨b', hr⟩ := hr
  rw [(hr.uniq hP).1]
  exact ⟨rfl, rfl, rfl, rfl⟩
theorem r_isPositive {d : Nat} {I : IE} {F : FE} {S : Sx} (hd : 3 ≤ d) (h : DI S I F) : MP m8_isPositive d shM [rv 0] I F (tf (Pos (gM S.1) (gC S.1))) := by
  have hn := h.1.1.2.1
  refine MS_of (ls := [lr 0]) f8_isPositive rfl rfl (Nat.le_of_ble_eq_true rfl) ?_
  refine w_aload i8_isPositive_0 rfl ?_
  refine w_cVP i8_isPositive_1 f8_isAllPositive v8_isAllPositive (r_isAllPositive (by omega) h.1.nm h.1.2.2.2.1 (by omega)) rfl rfl (by decide) rfl rfl (Nat.le_of_ble_eq_true rfl) (by omega) (fun v hv => ?_)
  refine w_ifeq i8_isPositive_4 (fun h4 => ?_) (fun h4 => ?_)
  · refine w_const i8_isPositive_11 ?_
    refine w_iret i8_isPositive_12 (Or.inl rfl) ⟨Nat.le_refl _, Nat.le_refl _⟩ ?_
    first
    | (refine ⟨rfl, 1, rfl, ?_, rfl, rfl⟩
       rcases hv with ⟨-, g⟩ | ⟨g, -⟩
       · exact Or.inl ⟨rfl, g⟩
       · omega)
    | (refine ⟨rfl, 0, rfl, ?_, rfl, rfl⟩
       rcases hv with ⟨g, -⟩ | ⟨-, g⟩
       · omega
       · exact Or.inr ⟨rfl, g⟩)
  · refine w_const i8_isPositive_7 ?_
    refine w_goto i8_isPositive_8 ?_
    refine w_iret i8_isPositive_12 (Or.inl rfl) ⟨Nat.le_refl _, Nat.le_refl _⟩ ?_
    first
    | (refine ⟨rfl, 1, rfl, ?_, rfl, rfl⟩
       rcases hv with ⟨-, g⟩ | ⟨g, -⟩
       · exact Or.inl ⟨rfl, g⟩
       · omega)
    | (refine ⟨rfl, 0, rfl, ?_, rfl, rfl⟩
       rcases hv with ⟨g, -⟩ | ⟨-, g⟩
       · omega
       · exact Or.inr ⟨rfl, g⟩)
theorem r_graverCount {d : Nat} {I : IE} {F : FE} {S : Sx} (h : DI S I F) : MR m8_graverCount d shM [rv 0] I F (gk (gM S.1) (gC S.1)) := by
  rw [← h.2.1.1]
  refine MS_of (ls := [lr 0]) f8_graverCount rfl rfl (Nat.le_of_ble_eq_true rfl) ?_
  refine w_aload i8_graverCount_0 rfl ?_
  refine w_get i8_graverCount_1 rfl rfl ?_
  refine w_iret i8_graverCount_4 (Or.inl rfl) ⟨Nat.le_refl _, Nat.le_refl _⟩ ?_
  exact ⟨rfl, rfl, rfl, rfl⟩
theorem r_graverEntry {d : Nat} {I : IE} {F : FE} {S : Sx} {x y : Int} (hd : 2 ≤ d) (h : DI S I F) : MR m8_graverEntry d shM [rv 0, iv x, iv y] I F (if (0 ≤ x ∧ x < gk (gM S.1) (gC S.1)) ∧ 0 ≤ y ∧ y < gC S.1 then gE (gM S.1) (gC S.1) x y else -1001) := by
  have hn := h.1.1.2.1
  obtain ⟨b1, b2, b3, b4⟩ := h.2.1
  have n2 := h.1.2.2.2.1
  by_cases hc : (0 ≤ x ∧ x < gk (gM S.1) (gC S.1)) ∧ 0 ≤ y ∧ y < gC S.1
  · rw [if_pos hc]
    have e := b3 x hc.1 y (by omega)
    unfold er at e
    refine MS_of (ls := [lr 0, li x, li y]) f8_graverEntry rfl rfl (Nat.le_of_ble_eq_true rfl) ?_
    refine w_aload i8_graverEntry_0 rfl ?_
    refine w_iload i8_graverEntry_1 rfl ?_
    refine w_cVP i8_graverEntry_2 f8_isElement v8_isElement (r_isElement (by omega) (by omega)) rfl rfl (by decide) rfl rfl (Nat.le_of_ble_eq_true rfl) (by omega) (fun v1 hv1 => ?_)
    refine w_ifeq i8_graverEntry_5 (fun h_ => absurd h_ (by rcases hv1 with h | h <;> omega)) (fun h5 => ?_)
    refine w_aload i8_graverEntry_8 rfl ?_
    refine w_iload i8_graverEntry_9 rfl ?_
    refine w_cVP i8_graverEntry_10 f8_isColumn v8_isColumn (r_isColumn (by omega) n2 (by omega)) rfl rfl (by decide) rfl rfl (Nat.le_of_ble_eq_true rfl) (by omega) (fun v2 hv2 => ?_)
    refine w_ifeq i8_graverEntry_13 (fun h_ => absurd h_ (by rcases hv2 with h | h <;> omega)) (fun h13 => ?_)
    refine w_aload i8_graverEntry_16 rfl ?_
    refine w_getr i8_graverEntry_17 rfl rfl ?_
    refine w_const i8_graverEntry_20 ?_
    refine w_iload i8_graverEntry_21 rfl ?_
    refine w_imul i8_graverEntry_22 (by omega) ?_
    refine w_iload i8_graverEntry_23 rfl ?_
    refine w_iadd i8_graverEntry_24 (by omega) ?_
    refine w_iald i8_graverEntry_25 rfl (by omega) ?_
    rw [e]
    refine w_goto i8_graverEntry_26 ?_
    refine w_iret i8_graverEntry_32 (Or.inl rfl) ⟨Nat.le_refl _, Nat.le_refl _⟩ ?_
    exact ⟨rfl, rfl, rfl, rfl⟩
  · rw [if_neg hc]
    refine MS_of (ls := [lr 0, li x, li y]) f8_graverEntry rfl rfl (Nat.le_of_ble_eq_true rfl) ?_
    refine w_aload i8_graverEntry_0 rfl ?_
    refine w_iload i8_graverEntry_1 rfl ?_
    refine w_cVP i8_graverEntry_2 f8_isElement v8_isElement (r_isElement (by omega) (by omega)) rfl rfl (by decide) rfl rfl (Nat.le_of_ble_eq_true rfl) (by omega) (fun v1 hv1 => ?_)
    refine w_ifeq i8_graverEntry_5 (fun h5 => ?_) (fun h5 => ?_)
    · refine w_const i8_graverEntry_29 ?_
      refine w_iret i8_graverEntry_32 (Or.inl rfl) ⟨Nat.le_refl _, Nat.le_refl _⟩ ?_
      exact ⟨rfl, rfl, rfl, rfl⟩
    · refine w_aload i8_graverEntry_8 rfl ?_
      refine w_iload i8_graverEntry_9 rfl ?_
      refine w_cVP i8_graverEntry_10 f8_isColumn v8_isColumn (r_isColumn (by omega) n2 (by omega)) rfl rfl (by decide) rfl rfl (Nat.le_of_ble_eq_true rfl) (by omega) (fun v2 hv2 => ?_)
      refine w_ifeq i8_graverEntry_13 (fun h13 => ?_) (fun h_ => absurd h_ (by rcases hv1 with h | h <;> rcases hv2 with g | g <;> omega))
      refine w_const i8_graverEntry_29 ?_
      refine w_iret i8_graverEntry_32 (Or.inl rfl) ⟨Nat.le_refl _, Nat.le_refl _⟩ ?_
      exact ⟨rfl, rfl, rfl, rfl⟩
theorem r_isKernelVector {d : Nat} {I : IE} {F : FE} {S : Sx} (hd : 2 ≤ d) (h : DI S I F) : MP m8_isKernelVector d shM [rv 0] I F (tf (KerF (gM S.1) (gC S.1) (gZ S.1))) := by
  have hV := h.1.1
  have hn := hV.2.1
  have hz := hV.2.2.2.2.1
  obtain ⟨n1, n2, n3, n4, n5, n6⟩ := h.1.2.2
  have en : F 1 1 = ((gC S.1).toNat : Int) := by omega
  have hp : ∀ r, 0 ≤ r ∧ r ≤ 1 → MR m8_product (d - 1) shM [rv 0, iv r, rv 1, iv 10, iv ((gC S.1).toNat : Int)] I F (dt (gM S.1) (gZ S.1) r (gC S.1).toNat) := fun r hr => r_product (N := 178) (by omega) h.1.nm hr (by omega) (by decide) rfl (by omega) (fun j hj => ⟨n4 j (by omega), by have := hz j; omega⟩)
  refine MS_of (ls := [lr 0]) f8_isKernelVector rfl rfl (Nat.le_of_ble_eq_true rfl) ?_
  refine w_aload i8_isKernelVector_0 rfl ?_
  refine w_const i8_isKernelVector_1 ?_
  refine w_aload i8_isKernelVector_2 rfl ?_
  refine w_getr i8_isKernelVector_3 rfl rfl ?_
  refine w_const i8_isKernelVector_6 ?_
  refine w_aload i8_isKernelVector_8 rfl ?_
  refine w_getr i8_isKernelVector_9 rfl rfl ?_
  refine w_const i8_isKernelVector_12 ?_
  refine w_iald i8_isKernelVector_13 rfl (by omega) ?_
  rw [en]
  refine w_cVR i8_isKernelVector_14 f8_product v8_product (hp _ (by omega)) rfl rfl (by decide) rfl rfl (Nat.le_of_ble_eq_true rfl) (by omega) ?_
  refine w_ifne i8_isKernelVector_17 (fun h17 => ?_) (fun h17 => ?_)
  · refine w_const i8_isKernelVector_44 ?_
    refine w_iret i8_isKernelVector_45 (Or.inr ⟨rfl, by omega⟩) ⟨Nat.le_refl _, Nat.le_refl _⟩ ?_
    first
    | exact ⟨rfl, 1, rfl, Or.inl ⟨rfl, by assumption, by assumption⟩, rfl, rfl⟩
    | exact ⟨rfl, 0, rfl, Or.inr ⟨rfl, fun g => absurd g.1 (by assumption)⟩, rfl, rfl⟩
    | exact ⟨rfl, 0, rfl, Or.inr ⟨rfl, fun g => absurd g.2 (by assumption)⟩, rfl, rfl⟩
  · refine w_aload i8_isKernelVector_20 rfl ?_
    refine w_const i8_isKernelVector_21 ?_
    refine w_aload i8_isKernelVector_22 rfl ?_
    refine w_getr i8_isKernelVector_23 rfl rfl ?_
    refine w_const i8_isKernelVector_26 ?_
    refine w_aload i8_isKernelVector_28 rfl ?_
    refine w_getr i8_isKernelVector_29 rfl rfl ?_
    refine w_const i8_isKernelVector_32 ?_
    refine w_iald i8_isKernelVector_33 rfl (by omega) ?_
    rw [en]
    refine w_cVR i8_isKernelVector_34 f8_product v8_product (hp _ (by omega)) rfl rfl (by decide) rfl rfl (Nat.le_of_ble_eq_true rfl) (by omega) ?_
    refine w_ifne i8_isKernelVector_37 (fun h37 => ?_) (fun h37 => ?_)
    · refine w_const i8_isKernelVector_44 ?_
      refine w_iret i8_isKernelVector_45 (Or.inr ⟨rfl, by omega⟩) ⟨Nat.le_refl _, Nat.le_refl _⟩ ?_
      first
      | exact ⟨rfl, 1, rfl, Or.inl ⟨rfl, by assumption, by assumption⟩, rfl, rfl⟩
      | exact ⟨rfl, 0, rfl, Or.inr ⟨rfl, fun g => absurd g.1 (by assumption)⟩, rfl, rfl⟩
      | exact ⟨rfl, 0, rfl, Or.inr ⟨rfl, fun g => absurd g.2 (by assumption)⟩, rfl, rfl⟩
    · refine w_const i8_isKernelVector_40 ?_
      refine w_goto i8_isKernelVector_41 ?_
      refine w_iret i8_isKernelVector_45 (Or.inr ⟨rfl, by omega⟩) ⟨Nat.le_refl _, Nat.le_refl _⟩ ?_
      first
      | exact ⟨rfl, 1, rfl, Or.inl ⟨rfl, by assumption, by assumption⟩, rfl, rfl⟩
      | exact ⟨rfl, 0, rfl, Or.inr ⟨rfl, fun g => absurd g.1 (by assumption)⟩, rfl, rfl⟩
      | exact ⟨rfl, 0, rfl, Or.inr ⟨rfl, fun g => absurd g.2 (by assumption)⟩, rfl, rfl⟩
theorem r_isInKernel {d : Nat} {I : IE} {F : FE} {S : Sx} (hd : 3 ≤ d) (h : DI S I F) : MP m8_isInKernel d shM [rv 0] I F (tf (KerF (gM S.1) (gC S.1) (gZ S.1))) := by
  refine MS_of (ls := [lr 0]) f8_isInKernel rfl rfl (Nat.le_of_ble_eq_true rfl) ?_
  refine w_aload i8_isInKernel_0 rfl ?_
  refine w_cVP i8_isInKernel_1 f8_isKernelVector v8_isKernelVector (r_isKernelVector (by omega) h) rfl rfl (by decide) rfl rfl (Nat.le_of_ble_eq_true rfl) (by omega) (fun v hv => ?_)
  refine w_ifeq i8_isInKernel_4 (fun h4 => ?_) (fun h4 => ?_)
  · refine w_const i8_isInKernel_11 ?_
    refine w_iret i8_isInKernel_12 (Or.inl rfl) ⟨Nat.le_refl _, Nat.le_refl _⟩ ?_
    first
    | (refine ⟨rfl, 1, rfl, ?_, rfl, rfl⟩
       rcases hv with ⟨-, g⟩ | ⟨g, -⟩
       · exact Or.inl ⟨rfl, g⟩
       · omega)
    | (refine ⟨rfl, 0, rfl, ?_, rfl, rfl⟩
       rcases hv with ⟨g, -⟩ | ⟨-, g⟩
       · omega
       · exact Or.inr ⟨rfl, g⟩)
  · refine w_const i8_isInKernel_7 ?_
    refine w_goto i8_isInKernel_8 ?_
    refine w_iret i8_isInKernel_12 (Or.inl rfl) ⟨Nat.le_refl _, Nat.le_refl _⟩ ?_
    first
    | (refine ⟨rfl, 1, rfl, ?_, rfl, rfl⟩
       rcases hv with ⟨-, g⟩ | ⟨g, -⟩
       · exact Or.inl ⟨rfl, g⟩
       · omega)
    | (refine ⟨rfl, 0, rfl, ?_, rfl, rfl⟩
       rcases hv with ⟨g, -⟩ | ⟨-, g⟩
       · omega
       · exact Or.inr ⟨rfl, g⟩)
theorem lr_su {d n0 : Nat} {Q : PQ} {I : IE} {F : FE} {e : Int} {u : Int → Int} (he : 0 ≤ e ∧ e < 160) (hu : ∀ j, 0 ≤ j ∧ j < 4 → F 4 (4 * e + j) = u j)
    (K : ∀ b : Nat, spb u 4 b → WS m8_support d 0 0 n0 Q 0 0 38 [lr 0, li e, li b, li 4] [] shM I F) :
    ∀ (m k b : Nat), k + m = 4 → spb u k b → WS m8_support d 0 0 n0 Q 0 0 4 [lr 0, li e, li b, li k] [] shM I F := by
  intro m
  induction m with
  | zero =>
    intro k b hk hP
    obtain rfl : k = 4 := by omega
    refine w_iload i8_support_4 rfl ?_
    refine w_const i8_support_5 ?_
    refine w_icmpge i8_support_6 (fun h6 => ?_) (fun h_ => absurd h_ (by omega))
    exact K b hP
  | succ m ih =>
    intro k b hk hP
    have uk := hu k (by omega)
    have hp : 2 ^ k < 2 ^ 4 := Nat.pow_lt_pow_right (by decide) (by omega)
    refine w_iload i8_support_4 rfl ?_
    refine w_const i8_support_5 ?_
    refine w_icmpge i8_support_6 (fun h_ => absurd h_ (by omega)) (fun h6 => ?_)
    refine w_iload i8_support_9 rfl ?_
    refine w_aload i8_support_10 rfl ?_
    refine w_getr i8_support_11 rfl rfl ?_
    refine w_const i8_support_14 ?_
    refine w_iload i8_support_15 rfl ?_
    refine w_imul i8_support_16 (by omega) ?_
    refine w_iload i8_support_17 rfl ?_
    refine w_iadd i8_support_18 (by omega) ?_
    refine w_iald i8_support_19 rfl (by omega) ?_
    rw [uk]
    refine w_ifeq i8_support_20 (fun h20 => ?_) (fun h20 => ?_)
    · refine w_const i8_support_29 ?_
      refine w_ior i8_support_30 ?_
      first
      | rw [borI_nat (b := 2 ^ k) (by have := hP.1; omega) (by omega)]
      | rw [show (0 : Int) = ((0 : Nat) : Int) from rfl, borI_nat (by have := hP.1; omega) (by omega), Nat.or_zero]
      refine w_is2 i8_support_31 ?_
      refine w_ii3 i8_support_32 (by omega) ?_
      refine w_goto i8_support_35 ?_
      first
      | (have h0 : u k = 0 := by assumption
         refine ih (k + 1) b (by omega) ⟨hP.1, fun i => ?_⟩
         rw [hP.2 i]
         congr 1
         apply propext
         constructor
         · intro h; exact ⟨by omega, h.2⟩
         · intro h
           refine ⟨?_, h.2⟩
           by_cases hik : i = k
           · subst hik; exact absurd h0 h.2
           · omega)
      | (have h0 : ¬ u k = 0 := by assumption
         refine ih (k + 1) _ (by omega) ⟨Nat.or_lt_two_pow (n := 4) hP.1 hp, fun i => ?_⟩
         rw [Nat.testBit_or, hP.2 i, Nat.testBit_two_pow]
         by_cases hik : k = i
         · subst hik; simp [h0]
         · simp only [hik, decide_false, Bool.or_false]
           congr 1
           apply propext
           constructor
           · intro h; exact ⟨by omega, h.2⟩
           · intro h; exact ⟨by omega, h.2⟩)
    · refine w_const i8_support_23 ?_
      refine w_iload i8_support_24 rfl ?_
      refine w_ishl i8_support_25 ?_
      rw [shl1 (by omega)]
      refine w_goto i8_support_26 ?_
      refine w_ior i8_support_30 ?_
      first
      | rw [borI_nat (b := 2 ^ k) (by have := hP.1; omega) (by omega)]
      | rw [show (0 : Int) = ((0 : Nat) : Int) from rfl, borI_nat (by have := hP.1; omega) (by omega), Nat.or_zero]
      refine w_is2 i8_support_31 ?_
      refine w_ii3 i8_support_32 (by omega) ?_
      refine w_goto i8_support_35 ?_
      first
      | (have h0 : u k = 0 := by assumption
         refine ih (k + 1) b (by omega) ⟨hP.1, fun i => ?_⟩
         rw [hP.2 i]
         congr 1
         apply propext
         constructor
         · intro h; exact ⟨by omega, h.2⟩
         · intro h
           refine ⟨?_, h.2⟩
           by_cases hik : i = k
           · subst hik; exact absurd h0 h.2
           · omega)
      | (have h0 : ¬ u k = 0 := by assumption
         refine ih (k + 1) _ (by omega) ⟨Nat.or_lt_two_pow (n := 4) hP.1 hp, fun i => ?_⟩
         rw [Nat.testBit_or, hP.2 i, Nat.testBit_two_pow]
         by_cases hik : k = i
         · subst hik; simp [h0]
         · simp only [hik, decide_false, Bool.or_false]
           congr 1
           apply propext
           constructor
           · intro h; exact ⟨by omega, h.2⟩
           · intro h; exact ⟨by omega, h.2⟩)
theorem r_support {d : Nat} {I : IE} {F : FE} {e : Int} {u : Int → Int} (he : 0 ≤ e ∧ e < 160) (hu : ∀ j, 0 ≤ j ∧ j < 4 → F 4 (4 * e + j) = u j) : MP m8_support d shM [rv 0, iv e] I F (fun v => ∃ b : Nat, v = b ∧ spb u 4 b) := by
  refine MS_of (ls := [lr 0, li e, lu, lu]) f8_support rfl rfl (Nat.le_of_ble_eq_true rfl) ?_
  refine w_const i8_support_0 ?_
  refine w_is2 i8_support_1 ?_
  refine w_const i8_support_2 ?_
  refine w_is3 i8_support_3 ?_
  refine lr_su he hu (fun b hb => ?_) 4 0 0 (by omega) ⟨by decide, fun i => by simp⟩
  refine w_iload i8_support_38 rfl ?_
  refine w_iret i8_support_39 (Or.inl rfl) ⟨Nat.le_refl _, Nat.le_refl _⟩ ?_
  exact ⟨rfl, _, rfl, ⟨b, rfl, hb⟩, rfl, rfl⟩
theorem andn0 {a b : Nat} (ha : a < 16) (hb : b < 16) : bandI a (bxorI b (-1)) = 0 ↔ a &&& b = a := by
  obtain ⟨r, hr, hle, ht⟩ := bandn_nat (a := a) (b := b) (by omega) (by omega)
  rw [hr]
  constructor
  · intro h0
    have r0 : r = 0 := by omega
    apply Nat.eq_of_testBit_eq
    intro k
    rw [Nat.testBit_and]
    cases ha' : a.testBit k with
    | false => rfl
    | true =>
      have k31 : k < 31 := by
        apply Classical.byContradiction
        intro hk
        rw [Nat.testBit_lt_two_pow (Nat.lt_of_lt_of_le ha (Nat.le_trans (show 16 ≤ 2 ^ 4 by decide) (Nat.pow_le_pow_right (by decide) (by omega))))] at ha'
        cases ha'
      have := ht k k31
      rw [r0, ha'] at this
      simp at this
      simp [this]
  · intro h
    have : r = 0 := by
      apply Nat.eq_of_testBit_eq
      intro k
      by_cases hk : k < 31
      · rw [ht k hk, ← h, Nat.testBit_and, Nat.zero_testBit]
        cases b.testBit k <;> simp
      · rw [Nat.zero_testBit, Nat.testBit_lt_two_pow (Nat.lt_of_lt_of_le (show r < 16 by omega) (Nat.le_trans (show 16 ≤ 2 ^ 4 by decide) (Nat.pow_le_pow_right (by decide) (by omega))))]
    rw [this]; rfl
theorem lr_ic {d n0 : Nat} {Q : PQ} {I : IE} {F : FE} {x c n : Int} {E : Int → Int → Int} {b : Nat} (hd : 1 ≤ d) (h5 : I 0 5 = c) (hc : 0 ≤ c ∧ c ≤ 15) (hE : ∀ e, 0 ≤ e ∧ e < c → ∀ j, 0 ≤ j ∧ j < 4 → F 4 (4 * e + j) = E e j) (hb : spb (E x) 4 b) (hsub : ∀ o, 0 ≤ o ∧ o < c → (zsub (E o) (E x) 4 ↔ zsub (E o) (E x) n))
    (K1 : ∀ y z, (∀ o, 0 ≤ o ∧ o < c → ¬ zsub (E o) (E x) n) → WS m8_isCircuit d 0 0 n0 Q 0 0 58 [lr 0, li x, li b, y, z] [] shM I F)
    (K0 : ∀ y z, (¬ ∀ o, 0 ≤ o ∧ o < c → ¬ zsub (E o) (E x) n) → WS m8_isCircuit d 0 0 n0 Q 0 0 50 [lr 0, li x, li b, y, z] [] shM I F) :
    ∀ (m k : Nat) (z : Option AV), (k + m : Int) = c → (∀ o, 0 ≤ o ∧ o < (k : Int) → ¬ zsub (E o) (E x) n) → WS m8_isCircuit d 0 0 n0 Q 0 0 20 [lr 0, li x, li b, li k, z] [] shM I F := by
  intro m
  induction m with
  | zero =>
    intro k z hk hP
    have ek : (k : Int) = c := by omega
    rw [ek] at hP
    refine w_iload i8_isCircuit_20 rfl ?_
    refine w_aload i8_isCircuit_21 rfl ?_
    refine w_get i8_isCircuit_22 rfl rfl ?_
    refine w_icmpge i8_isCircuit_25 (fun h25 => ?_) (fun h_ => absurd h_ (by omega))
    exact K1 _ _ hP
  | succ m ih =>
    intro k z hk hP
    have hstep : ¬ zsub (E k) (E x) n → ∀ o, 0 ≤ o ∧ o < ((k + 1 : Nat) : Int) → ¬ zsub (E o) (E x) n := fun h o ho => by
      by_cases hok : o = k
      · subst hok; exact h
      · exact hP o (by omega)
    refine w_iload i8_isCircuit_20 rfl ?_
    refine w_aload i8_isCircuit_21 rfl ?_
    refine w_get i8_isCircuit_22 rfl rfl ?_
    refine w_icmpge i8_isCircuit_25 (fun h_ => absurd h_ (by omega)) (fun h25 => ?_)
    refine w_aload i8_isCircuit_28 rfl ?_
    refine w_iload i8_isCircuit_29 rfl ?_
    refine w_cVP i8_isCircuit_30 f8_support v8_support (r_support (u := E k) (by omega) (hE k (by omega))) rfl rfl (by decide) rfl rfl (Nat.le_of_ble_eq_true rfl) (by omega) (fun v hv => ?_)
    obtain ⟨a, rfl, ha⟩ := hv
    have hz : (a ≠ b ∧ a &&& b = a) ↔ zsub (E k) (E x) n := (spb_sub (n := 4) (by decide) ha hb).trans (hsub k (by omega))
    have h0 := andn0 ha.1 hb.1
    refine w_is4 i8_isCircuit_33 ?_
    refine w_iload i8_isCircuit_35 rfl ?_
    refine w_iload i8_isCircuit_37 rfl ?_
    refine w_icmpeq i8_isCircuit_38 (fun h38 => ?_) (fun h38 => ?_)
    · refine w_ii3 i8_isCircuit_52 (by omega) ?_
      refine w_goto i8_isCircuit_55 ?_
      first
      | exact ih (k + 1) _ (by omega) (hstep (fun h => absurd (h0.mpr (hz.mpr h).2) (by assumption)))
      | exact ih (k + 1) _ (by omega) (hstep (fun h => (hz.mpr h).1 (by omega)))
    · refine w_iload i8_isCircuit_41 rfl ?_
      refine w_iload i8_isCircuit_43 rfl ?_
      refine w_const i8_isCircuit_44 ?_
      refine w_ixor i8_isCircuit_45 ?_
      refine w_iand i8_isCircuit_46 ?_
      refine w_ifne i8_isCircuit_47 (fun h47 => ?_) (fun h47 => ?_)
      · refine w_ii3 i8_isCircuit_52 (by omega) ?_
        refine w_goto i8_isCircuit_55 ?_
        first
        | exact ih (k + 1) _ (by omega) (hstep (fun h => absurd (h0.mpr (hz.mpr h).2) (by assumption)))
        | exact ih (k + 1) _ (by omega) (hstep (fun h => (hz.mpr h).1 (by omega)))
      · exact K0 _ _ (fun h => h k (by omega) (hz.mp ⟨by omega, h0.mp (by assumption)⟩))
theorem r_isCircuit {d : Nat} {I : IE} {F : FE} {S : Sx} {x : Int} (hd : 2 ≤ d) (h : DI S I F) : MP m8_isCircuit d shM [rv 0, iv x] I F (fun v => if 0 ≤ x ∧ x < gk (gM S.1) (gC S.1) then tf (Circ (gM S.1) (gC S.1) x) v else v = -1001) := by
  have hn := h.1.1.2.1
  obtain ⟨b1, b2, b3, b4⟩ := h.2.1
  obtain ⟨-, bb, hP, hBs⟩ := b4
  by_cases hc : 0 ≤ x ∧ x < gk (gM S.1) (gC S.1)
  · simp only [if_pos hc]
    have hsub : ∀ o, 0 ≤ o ∧ o < gk (gM S.1) (gC S.1) → (zsub (gE (gM S.1) (gC S.1) o) (gE (gM S.1) (gC S.1) x) 4 ↔ zsub (gE (gM S.1) (gC S.1) o) (gE (gM S.1) (gC S.1) x) (gC S.1)) := fun o ho => by
      have z1 := (hBs.1 o ho).2.2.2
      have z2 := (hBs.1 x hc).2.2.2
      constructor
      · rintro ⟨g1, i, i0, i1, i2, i3⟩
        refine ⟨fun j hj => g1 j (by omega), i, i0, ?_, i2, i3⟩
        apply Classical.byContradiction
        intro hi
        exact i2 (z2 i (by omega))
      · rintro ⟨g1, i, i0, i1, i2, i3⟩
        refine ⟨fun j hj hne => ?_, i, i0, by omega, i2, i3⟩
        by_cases c : j < gC S.1
        · exact g1 j (by omega) hne
        · exact absurd (z1 j (by omega)) hne
    refine MS_of (ls := [lr 0, li x, lu, lu, lu]) f8_isCircuit rfl rfl (Nat.le_of_ble_eq_true rfl) ?_
    refine w_aload i8_isCircuit_0 rfl ?_
    refine w_iload i8_isCircuit_1 rfl ?_
    refine w_cVP i8_isCircuit_2 f8_isElement v8_isElement (r_isElement (by omega) (by omega)) rfl rfl (by decide) rfl rfl (Nat.le_of_ble_eq_true rfl) (by omega) (fun v1 hv1 => ?_)
    refine w_ifne i8_isCircuit_5 (fun h5 => ?_) (fun h_ => absurd h_ (by rcases hv1 with h | h <;> omega))
    refine w_aload i8_isCircuit_12 rfl ?_
    refine w_iload i8_isCircuit_13 rfl ?_
    refine w_cVP i8_isCircuit_14 f8_support v8_support (r_support (u := gE (gM S.1) (gC S.1) x) (by omega) (fun j hj => b3 x hc j hj)) rfl rfl (by decide) rfl rfl (Nat.le_of_ble_eq_true rfl) (by omega) (fun v hv => ?_)
    obtain ⟨b, rfl, hb⟩ := hv
    refine w_is2 i8_isCircuit_17 ?_
    refine w_const i8_isCircuit_18 ?_
    refine w_is3 i8_isCircuit_19 ?_
    refine lr_ic (E := gE (gM S.1) (gC S.1)) (n := gC S.1) (by omega) b1 b2 (fun e he j hj => b3 e he j hj) hb hsub (fun y z g => ?_) (fun y z g => ?_) (gk (gM S.1) (gC S.1)).toNat 0 _ (by omega) (fun o ho => absurd ho (by omega))
    · refine w_const i8_isCircuit_58 ?_
      refine w_iret i8_isCircuit_59 (Or.inl rfl) ⟨Nat.le_refl _, Nat.le_refl _⟩ ?_
      exact ⟨rfl, _, rfl, Or.inl ⟨rfl, g⟩, rfl, rfl⟩
    · refine w_const i8_isCircuit_50 ?_
      refine w_iret i8_isCircuit_51 (Or.inl rfl) ⟨Nat.le_refl _, Nat.le_refl _⟩ ?_
      exact ⟨rfl, _, rfl, Or.inr ⟨rfl, g⟩, rfl, rfl⟩
  · simp only [if_neg hc]
    refine MS_of (ls := [lr 0, li x, lu, lu, lu]) f8_isCircuit rfl rfl (Nat.le_of_ble_eq_true rfl) ?_
    refine w_aload i8_isCircuit_0 rfl ?_
    refine w_iload i8_isCircuit_1 rfl ?_
    refine w_cVP i8_isCircuit_2 f8_isElement v8_isElement (r_isElement (by omega) (by omega)) rfl rfl (by decide) rfl rfl (Nat.le_of_ble_eq_true rfl) (by omega) (fun v1 hv1 => ?_)
    refine w_ifne i8_isCircuit_5 (fun h_ => absurd h_ (by rcases hv1 with h | h <;> omega)) (fun h5 => ?_)
    refine w_const i8_isCircuit_8 ?_
    refine w_iret i8_isCircuit_11 (Or.inl rfl) ⟨Nat.le_refl _, Nat.le_refl _⟩ ?_
    exact ⟨rfl, _, rfl, rfl, rfl, rfl⟩
