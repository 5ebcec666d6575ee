theorem gE_b {S : Sx} {I : IE} {F : FE} (h : CI S I F) : ∀ e, 0 ≤ e ∧ e < gk (gM S.1) (gC S.1) → ∀ j, 0 ≤ j ∧ j < gC S.1 → -9 ≤ gE (gM S.1) (gC S.1) e j ∧ gE (gM S.1) (gC S.1) e j ≤ 9 := fun e he j hj => by
  have hn := h.1.1.2.1
  obtain ⟨q1, q3, bb, b4, b5⟩ := CB.E hn h.2.2.2.1
  have b9 := b4.b9
  have := (b5.1 e (by omega)).2.1 j hj
  rw [← q3 e (by omega) j (by omega)]
  omega
theorem gp_b {M : Int → Int} {n e s j : Int} (hs : s = 1 ∨ s = -1) (h : -9 ≤ gE M n e j ∧ gE M n e j ≤ 9) : 0 ≤ gp M n e s j ∧ gp M n e s j ≤ 9 := by
  unfold gp
  rcases hs with rfl | rfl <;> split <;> omega
/-- the fiber of an element stands -/
def EFib (S : Sx) (x : Int) (I : IE) (F : FE) : Prop := FbIs 54 32 (fbm (gM S.1) (gC S.1) (gp (gM S.1) (gC S.1) x 1)).toNat (gC S.1) (fbY (gM S.1) (gC S.1) (gp (gM S.1) (gC S.1) x 1)) I F ∧ I 54 0 = fbm (gM S.1) (gC S.1) (gp (gM S.1) (gC S.1) x 1) ∧ (∀ i, 0 ≤ i ∧ i < fbm (gM S.1) (gC S.1) (gp (gM S.1) (gC S.1) x 1) → F 57 i = fbf (gM S.1) (gC S.1) (gp (gM S.1) (gC S.1) x 1) i) ∧ FibP (gM S.1) (gC S.1) (gp (gM S.1) (gC S.1) x 1) (fbm (gM S.1) (gC S.1) (gp (gM S.1) (gC S.1) x 1), fbf (gM S.1) (gC S.1) (gp (gM S.1) (gC S.1) x 1))
theorem s7_buildElementFiber {d : Nat} {I : IE} {F : FE} {S : Sx} {x : Int} (hcap : CapE) (hd : 5 ≤ d) (h : CI S I F) (hpos : Pos (gM S.1) (gC S.1)) (hx : 0 ≤ x ∧ x < gk (gM S.1) (gC S.1)) : MU m7_buildElementFiber d shX [rv 0, iv x] I F (fun I' F' => CI S I' F' ∧ EFib S x I' F' ∧ ∀ j, 0 ≤ j ∧ j < gC S.1 → F' 61 j = gp (gM S.1) (gC S.1) x 1 j) := by
  obtain ⟨v, s1, s2, s3, s4, s5, s6⟩ := id h.1
  have hn := v.2.1
  have hM := v.2.2.1
  have hB := h.2.2.2.1
  have hB1 := hB.2.1
  have hB3 := hB.1
  obtain ⟨q1, q3, bb, b4, b5⟩ := CB.E hn hB
  have hgb := gE_b h x hx
  refine MS_of (ls := [lr 0, li x]) f7_buildElementFiber rfl rfl (Nat.le_of_ble_eq_true rfl) ?_
  refine w_aload i7_buildElementFiber_0 rfl ?_
  refine w_getr i7_buildElementFiber_1 rfl rfl ?_
  refine w_iload i7_buildElementFiber_4 rfl ?_
  refine w_const i7_buildElementFiber_5 ?_
  refine w_aload i7_buildElementFiber_6 rfl ?_
  refine w_getr i7_buildElementFiber_7 rfl rfl ?_
  refine w_cVU i7_buildElementFiber_10 f2_copyPart v2_copyPart (s2_copyPart (by omega) (by omega) (Or.inl rfl) (by omega) hB.2.2.1) rfl rfl (by decide) rfl rfl (Nat.le_of_ble_eq_true rfl) (by omega) (fun I1 F1 hq => ?_)
  obtain ⟨rfl, c1, c2, c3⟩ := hq
  have p61 : ∀ j, 0 ≤ j ∧ j < gC S.1 → F1 61 j = gp (gM S.1) (gC S.1) x 1 j := fun j hj => by
    rw [c1 j (by omega), q3 x (by omega) j (by omega)]
    rfl
  have f2 : F1 2 = gM S.1 := by rw [c3 2 (by decide)]; exact s3
  have hy : ∀ j, 0 ≤ j ∧ j < gC S.1 → 0 ≤ F1 61 j ∧ F1 61 j ≤ 9 := fun j hj => by rw [p61 j hj]; exact gp_b (Or.inl rfl) (hgb j hj)
  have d0 := dt_nn (M := gM S.1) (v := F1 61) (r := 0) hM (gC S.1).toNat (fun j hj => hy j (by omega))
  have d1 := dt_nn (M := gM S.1) (v := F1 61) (r := 1) hM (gC S.1).toNat (fun j hj => hy j (by omega))
  have hcp := hcap (gM S.1) (F1 61) (gC S.1) _ _ (gk (gM S.1) (gC S.1)) (en F) hn hM hpos b4 (by rw [← q1]; exact b5) x hx (fun j hj => by rw [c1 j (by omega), Int.one_mul])
  refine w_aload i7_buildElementFiber_13 rfl ?_
  refine w_getr i7_buildElementFiber_14 rfl rfl ?_
  refine w_aload i7_buildElementFiber_17 rfl ?_
  refine w_getr i7_buildElementFiber_18 rfl rfl ?_
  refine w_aload i7_buildElementFiber_21 rfl ?_
  refine w_getr i7_buildElementFiber_22 rfl rfl ?_
  refine w_cVU i7_buildElementFiber_25 f1_build v1_build (s1_build (b := 54) (N := 32) (p := 61) (Np := 4) fb54 (by omega) (by omega) (by rw [f2]; exact hM) (by rw [f2, s2]; exact hpos) rfl (by decide) (by decide) (fun j hj => by have := hy j (by omega); omega) (by rw [f2, s2]; omega) (by rw [f2, s2]; omega) (by rw [f2, s2]; exact hcp) (by decide)) rfl rfl (by decide) rfl rfl (Nat.le_of_ble_eq_true rfl) (by omega) (fun I2 F2 hr => ?_)
  obtain ⟨r1, r2, r3, r4⟩ := hr
  rw [f2, s2] at r4
  refine w_vret i7_buildElementFiber_28 rfl ⟨Nat.le_refl _, Nat.le_refl _⟩ ?_
  have hP2 : FibP (gM S.1) (gC S.1) (gp (gM S.1) (gC S.1) x 1) (I2 54 0, F2 57) := by rw [← (fbp_ext (M := gM S.1) (by omega) p61).1]; exact r4
  refine ⟨rfl, rfl, h.hi (fun a k ha => r1 a k (by omega)) (fun a ha => by rw [r2 a (by omega) (by omega) (by omega), c3 a (by omega)]), ?_, fun j hj => by rw [r2 61 (by decide) (by decide) (by decide)]; exact p61 j hj⟩
  exact fbis_of hn hM (fun j hj => gp_b (Or.inl rfl) (hgb j hj)) fb54 (Or.inr rfl) (by rw [r3, s2]) (hcp _ _ _ r4) hP2
theorem s7_isIndispensable {d : Nat} {I : IE} {F : FE} {S : Sx} {x : Int} (hcap : CapE) (hd : 6 ≤ d) (h : CI S I F) : MB m7_isIndispensable d shX [rv 0, iv x] I F (fun v I' F' => CI S I' F' ∧ ((¬ (0 ≤ x ∧ x < gk (gM S.1) (gC S.1)) ∧ v = -1001) ∨ (0 ≤ x ∧ x < gk (gM S.1) (gC S.1)) ∧ ((¬ Pos (gM S.1) (gC S.1) ∧ v = -1002) ∨ Pos (gM S.1) (gC S.1) ∧ tf (fbm (gM S.1) (gC S.1) (gp (gM S.1) (gC S.1) x 1) = 2) v))) := by
  obtain ⟨v, s1, s2, s3, s4⟩ := id h.1
  have hn := v.2.1
  obtain ⟨q1, q3, bb, b4, b5⟩ := CB.E hn h.2.2.2.1
  refine MS_of (ls := [lr 0, li x]) f7_isIndispensable rfl rfl (Nat.le_of_ble_eq_true rfl) ?_
  refine w_aload i7_isIndispensable_0 rfl ?_
  refine w_iload i7_isIndispensable_1 rfl ?_
  refine w_cVP i7_isIndispensable_2 f7_isElement v7_isElement s7_isElement rfl rfl (by decide) rfl rfl (Nat.le_of_ble_eq_true rfl) (by omega) (fun v0 hv0 => ?_)
  rw [q1] at hv0
  refine w_ifne i7_isIndispensable_5 (fun h5 => ?_) (fun h5 => ?_)
  · refine w_aload i7_isIndispensable_12 rfl ?_
    refine w_getr i7_isIndispensable_13 rfl rfl ?_
    refine w_cVP i7_isIndispensable_16 f5_hasNoZeroColumn v5_hasNoZeroColumn (s5_hasNoZeroColumn (by omega) (by omega)) rfl rfl (by decide) rfl rfl (Nat.le_of_ble_eq_true rfl) (by omega) (fun v1 hv1 => ?_)
    rw [s2, s3] at hv1
    have hx : 0 ≤ x ∧ x < gk (gM S.1) (gC S.1) := by rcases hv0 with g | g <;> omega
    refine w_ifne i7_isIndispensable_19 (fun h19 => ?_) (fun h19 => ?_)
    · refine w_aload i7_isIndispensable_26 rfl ?_
      refine w_iload i7_isIndispensable_27 rfl ?_
      refine w_cVU i7_isIndispensable_28 f7_buildElementFiber v7_buildElementFiber (s7_buildElementFiber hcap (by omega) h (by rcases hv1 with ⟨-, a⟩ | ⟨a, -⟩; exact a; omega) hx) rfl rfl (by decide) rfl rfl (Nat.le_of_ble_eq_true rfl) (by omega) (fun I1 F1 hq => ?_)
      have hPo : Pos (gM S.1) (gC S.1) := by rcases hv1 with ⟨-, a⟩ | ⟨a, -⟩; exact a; omega
      have e0 := hq.2.1.2.1
      refine w_aload i7_isIndispensable_31 rfl ?_
      refine w_getr i7_isIndispensable_32 rfl rfl ?_
      refine w_get i7_isIndispensable_35 rfl rfl ?_
      refine w_const i7_isIndispensable_38 ?_
      refine w_icmpne i7_isIndispensable_39 (fun h39 => ?_) (fun h39 => ?_)
      · refine w_const i7_isIndispensable_46 ?_
        refine w_cSR i7_isIndispensable_47 f7_asNumber v7_asNumber (s7_asNumber (by decide)) rfl rfl (Nat.le_of_ble_eq_true rfl) (by omega) ?_
        refine w_iret i7_isIndispensable_50 (Or.inl rfl) ⟨Nat.le_refl _, Nat.le_refl _⟩ ?_
        first
        | exact ⟨rfl, _, rfl, hq.1, Or.inr ⟨hx, Or.inr ⟨hPo, Or.inl ⟨rfl, by omega⟩⟩⟩⟩
        | exact ⟨rfl, _, rfl, hq.1, Or.inr ⟨hx, Or.inr ⟨hPo, Or.inr ⟨rfl, by omega⟩⟩⟩⟩
      · refine w_const i7_isIndispensable_42 ?_
        refine w_goto i7_isIndispensable_43 ?_
        refine w_cSR i7_isIndispensable_47 f7_asNumber v7_asNumber (s7_asNumber (by decide)) rfl rfl (Nat.le_of_ble_eq_true rfl) (by omega) ?_
        refine w_iret i7_isIndispensable_50 (Or.inl rfl) ⟨Nat.le_refl _, Nat.le_refl _⟩ ?_
        first
        | exact ⟨rfl, _, rfl, hq.1, Or.inr ⟨hx, Or.inr ⟨hPo, Or.inl ⟨rfl, by omega⟩⟩⟩⟩
        | exact ⟨rfl, _, rfl, hq.1, Or.inr ⟨hx, Or.inr ⟨hPo, Or.inr ⟨rfl, by omega⟩⟩⟩⟩
    · refine w_const i7_isIndispensable_22 ?_
      refine w_iret i7_isIndispensable_25 (Or.inl rfl) ⟨Nat.le_refl _, Nat.le_refl _⟩ ?_
      exact ⟨rfl, _, rfl, h, Or.inr ⟨hx, Or.inl ⟨fun g => by rcases hv1 with ⟨a, -⟩ | ⟨-, a⟩; omega; exact a g, rfl⟩⟩⟩
  · refine w_const i7_isIndispensable_8 ?_
    refine w_iret i7_isIndispensable_11 (Or.inl rfl) ⟨Nat.le_refl _, Nat.le_refl _⟩ ?_
    exact ⟨rfl, _, rfl, h, Or.inl ⟨by rcases hv0 with g | g <;> omega, rfl⟩⟩
theorem s7_joinsItsParts {d : Nat} {I : IE} {F : FE} {S : Sx} {x : Int} (hcap : CapE) (hd : 6 ≤ d) (h : CI S I F) (hpos : Pos (gM S.1) (gC S.1)) (hx : 0 ≤ x ∧ x < gk (gM S.1) (gC S.1)) : MB m7_joinsItsParts d shX [rv 0, iv x] I F (fun v I' F' => CI S I' F' ∧ tf (Jn (gM S.1) (gC S.1) (gA S.1) x) v) := by
  obtain ⟨v, s1, s2, s3, s4, s5⟩ := id h.1
  have hn := v.2.1
  have hgb := gE_b h x hx
  refine MS_of (ls := [lr 0, li x, lu, lu]) f7_joinsItsParts rfl rfl (Nat.le_of_ble_eq_true rfl) ?_
  refine w_aload i7_joinsItsParts_0 rfl ?_
  refine w_iload i7_joinsItsParts_1 rfl ?_
  refine w_cVU i7_joinsItsParts_2 f7_buildElementFiber v7_buildElementFiber (s7_buildElementFiber hcap (by omega) h hpos hx) rfl rfl (by decide) rfl rfl (Nat.le_of_ble_eq_true rfl) (by omega) (fun I1 F1 hq => ?_)
  obtain ⟨hc, ⟨fi, f0, f1, f2⟩, p61⟩ := hq
  have fi1 := fi.2.2.2.2.1
  have fi2 := fi.2.2.1
  have fz : 0 ≤ fbm (gM S.1) (gC S.1) (gp (gM S.1) (gC S.1) x 1) := f2.1
  have hB := hc.2.2.2.1
  have hB1 := hB.2.1
  have hB3 := hB.1
  obtain ⟨q1, q3, bb, b4, b5⟩ := CB.E hn hB
  refine w_aload i7_joinsItsParts_5 rfl ?_
  refine w_getr i7_joinsItsParts_6 rfl rfl ?_
  refine w_aload i7_joinsItsParts_9 rfl ?_
  refine w_getr i7_joinsItsParts_10 rfl rfl ?_
  refine w_cVP i7_joinsItsParts_13 f1_numberOf v1_numberOf (s1_numberOf2 (b := 54) (N := 32) (p := 61) (Np := 4) fb54 (by omega) (Or.inr rfl) (by omega) (by omega) (fun i j hij => fi.2.2.2.2.2.2.1 i j (by omega)) rfl (by decide) (fun j hj => by rw [p61 j (by omega)]; have := gp_b (M := gM S.1) (Or.inl rfl) (hgb j (by omega)); omega)) rfl rfl (by decide) rfl rfl (Nat.le_of_ble_eq_true rfl) (by omega) (fun s hs => ?_)
  rw [f0, fi1, shf_ext p61] at hs
  have es : s = ixo (gM S.1) (gC S.1) (gp (gM S.1) (gC S.1) x 1) (gp (gM S.1) (gC S.1) x 1) := idxP_uniq f2.2.1 (idxP_ext f1 hs) (ixo_ok _ _ _ _)
  refine w_is2 i7_joinsItsParts_16 ?_
  refine w_aload i7_joinsItsParts_17 rfl ?_
  refine w_getr i7_joinsItsParts_18 rfl rfl ?_
  refine w_iload i7_joinsItsParts_21 rfl ?_
  refine w_const i7_joinsItsParts_22 ?_
  refine w_aload i7_joinsItsParts_23 rfl ?_
  refine w_getr i7_joinsItsParts_24 rfl rfl ?_
  refine w_cVU i7_joinsItsParts_27 f2_copyPart v2_copyPart (s2_copyPart (by omega) (by omega) (Or.inr rfl) (by omega) hB.2.2.1) rfl rfl (by decide) rfl rfl (Nat.le_of_ble_eq_true rfl) (by omega) (fun I2 F2 hr => ?_)
  obtain ⟨rfl, c1, c2, c3⟩ := hr
  have p62 : ∀ j, 0 ≤ j ∧ j < gC S.1 → F2 61 j = gp (gM S.1) (gC S.1) x (-1) j := fun j hj => by
    rw [c1 j (by omega), q3 x (by omega) j (by omega)]
    rfl
  have g57 : F2 57 = F1 57 := c3 57 (by decide)
  have hc2 : CI S I2 F2 := hc.hi (fun _ _ _ => rfl) (fun a ha => c3 a (by omega))
  have fib2 : FbIs 54 32 (fbm (gM S.1) (gC S.1) (gp (gM S.1) (gC S.1) x 1)).toNat (gC S.1) (fbY (gM S.1) (gC S.1) (gp (gM S.1) (gC S.1) x 1)) I2 F2 := by
    unfold FbIs at fi ⊢
    rw [show F2 (54 + 3) = F1 (54 + 3) from g57]
    exact fi
  obtain ⟨k, k0, k1, k2, k3, k4, k5, k6, k7⟩ := fib_walk hc2 fib2 (by rw [show F2 (54 + 3) = F1 (54 + 3) from g57]; exact f1) f2
  refine w_aload i7_joinsItsParts_30 rfl ?_
  refine w_getr i7_joinsItsParts_31 rfl rfl ?_
  refine w_aload i7_joinsItsParts_34 rfl ?_
  refine w_getr i7_joinsItsParts_35 rfl rfl ?_
  refine w_cVP i7_joinsItsParts_38 f1_numberOf v1_numberOf (s1_numberOf2 (b := 54) (N := 32) (p := 61) (Np := 4) fb54 (by omega) (Or.inr rfl) (by omega) (by omega) (fun i j hij => fib2.2.2.2.2.2.2.1 i j (by omega)) rfl (by decide) (fun j hj => by rw [p62 j (by omega)]; have := gp_b (M := gM S.1) (Or.inr rfl) (hgb j (by omega)); omega)) rfl rfl (by decide) rfl rfl (Nat.le_of_ble_eq_true rfl) (by omega) (fun t ht => ?_)
  rw [f0, fi1, shf_ext p62] at ht
  have et : t = ixo (gM S.1) (gC S.1) (gp (gM S.1) (gC S.1) x 1) (gp (gM S.1) (gC S.1) x (-1)) := idxP_uniq f2.2.1 (idxP_ext (by rw [show F2 (54 + 3) = F1 (54 + 3) from g57]; exact f1) ht) (ixo_ok _ _ _ _)
  refine w_is3 i7_joinsItsParts_41 ?_
  refine w_aload i7_joinsItsParts_42 rfl ?_
  refine w_getr i7_joinsItsParts_43 rfl rfl ?_
  refine w_aload i7_joinsItsParts_46 rfl ?_
  refine w_getr i7_joinsItsParts_47 rfl rfl ?_
  refine w_aload i7_joinsItsParts_50 rfl ?_
  refine w_getr i7_joinsItsParts_51 rfl rfl ?_
  refine w_aload i7_joinsItsParts_54 rfl ?_
  refine w_getr i7_joinsItsParts_55 rfl rfl ?_
  refine w_iload i7_joinsItsParts_58 rfl ?_
  refine w_iload i7_joinsItsParts_59 rfl ?_
  refine w_cVB i7_joinsItsParts_60 f6_countSteps v6_countSteps (s6_countSteps (by omega) fib2 k1 k2 k3 k4 k5 k6 k7) rfl rfl (by decide) rfl rfl (Nat.le_of_ble_eq_true rfl) (by omega) (fun w I3 F3 hw => ?_)
  have ew : w = stp (gM S.1) (gC S.1) (gp (gM S.1) (gC S.1) x 1) (gA S.1) (ixo (gM S.1) (gC S.1) (gp (gM S.1) (gC S.1) x 1) (gp (gM S.1) (gC S.1) x 1)) (ixo (gM S.1) (gC S.1) (gp (gM S.1) (gC S.1) x 1) (gp (gM S.1) (gC S.1) x (-1))) := by rw [hw.2, k0, es, et]; rfl
  refine w_iflt i7_joinsItsParts_63 (fun h63 => ?_) (fun h63 => ?_)
  · refine w_const i7_joinsItsParts_70 ?_
    refine w_iret i7_joinsItsParts_71 (Or.inr ⟨rfl, by omega⟩) ⟨Nat.le_refl _, Nat.le_refl _⟩ ?_
    first
    | exact ⟨rfl, _, rfl, hc2.W hw.1, Or.inl ⟨rfl, by unfold Jn; omega⟩⟩
    | exact ⟨rfl, _, rfl, hc2.W hw.1, Or.inr ⟨rfl, by unfold Jn; omega⟩⟩
  · refine w_const i7_joinsItsParts_66 ?_
    refine w_goto i7_joinsItsParts_67 ?_
    refine w_iret i7_joinsItsParts_71 (Or.inr ⟨rfl, by omega⟩) ⟨Nat.le_refl _, Nat.le_refl _⟩ ?_
    first
    | exact ⟨rfl, _, rfl, hc2.W hw.1, Or.inl ⟨rfl, by unfold Jn; omega⟩⟩
    | exact ⟨rfl, _, rfl, hc2.W hw.1, Or.inr ⟨rfl, by unfold Jn; omega⟩⟩
/-- each element that is not active has its parts joined -/
def MkO (M : Int → Int) (n : Int) (A : Nat → Int) : Prop := ∀ e : Nat, (e : Int) < gk M n → A e = 1 ∨ Jn M n A e
theorem l7_imb {d n0 : Nat} {Q : PQ} {S : Sx} (hcap : CapE) (hd : 7 ≤ d) (hpos : Pos (gM S.1) (gC S.1))
    (K1 : ∀ I F x, CI S I F → MkO (gM S.1) (gC S.1) (gA S.1) → WS m7_isMarkovBasis d 0 0 n0 Q 0 0 40 [lr 0, x] [] shX I F)
    (K0 : ∀ I F x, CI S I F → ¬ MkO (gM S.1) (gC S.1) (gA S.1) → WS m7_isMarkovBasis d 0 0 n0 Q 0 0 32 [lr 0, x] [] shX I F) :
    ∀ (m k : Nat) (I : IE) (F : FE), (k + m : Int) = gk (gM S.1) (gC S.1) → CI S I F → (∀ e : Nat, e < k → gA S.1 e = 1 ∨ Jn (gM S.1) (gC S.1) (gA S.1) e) → WS m7_isMarkovBasis d 0 0 n0 Q 0 0 2 [lr 0, li k] [] shX I F := by
  intro m
  induction m with
  | zero =>
    intro k I F hk h hP
    obtain ⟨q1, q3, bb, b4, b5⟩ := CB.E h.1.1.2.1 h.2.2.2.1
    refine w_iload i7_isMarkovBasis_2 rfl ?_
    refine w_aload i7_isMarkovBasis_3 rfl ?_
    refine w_getr i7_isMarkovBasis_4 rfl rfl ?_
    refine w_get i7_isMarkovBasis_7 rfl rfl ?_
    refine w_icmpge i7_isMarkovBasis_10 (fun h10 => ?_) (fun h_ => absurd h_ (by omega))
    exact K1 I F _ h (fun e he => hP e (by omega))
  | succ m ih =>
    intro k I F hk h hP
    obtain ⟨q1, q3, bb, b4, b5⟩ := CB.E h.1.1.2.1 h.2.2.2.1
    have hB1 := h.2.2.2.1.2.1
    obtain ⟨v, s1, s2, s3, s4, s5, s6, s7⟩ := id h.1
    have e1 := s7 k (by omega)
    have step : (gA S.1 k = 1 ∨ Jn (gM S.1) (gC S.1) (gA S.1) k) → ∀ e : Nat, e < k + 1 → gA S.1 e = 1 ∨ Jn (gM S.1) (gC S.1) (gA S.1) e := fun g e he => by
      by_cases c : e = k
      · rw [c]; exact g
      · exact hP e (by omega)
    refine w_iload i7_isMarkovBasis_2 rfl ?_
    refine w_aload i7_isMarkovBasis_3 rfl ?_
    refine w_getr i7_isMarkovBasis_4 rfl rfl ?_
    refine w_get i7_isMarkovBasis_7 rfl rfl ?_
    refine w_icmpge i7_isMarkovBasis_10 (fun h_ => absurd h_ (by omega)) (fun h10 => ?_)
    refine w_aload i7_isMarkovBasis_13 rfl ?_
    refine w_getr i7_isMarkovBasis_14 rfl rfl ?_
    refine w_iload i7_isMarkovBasis_17 rfl ?_
    refine w_cVP i7_isMarkovBasis_18 f5_isOn v5_isOn (s5_isOn (by omega) s6) rfl rfl (by decide) rfl rfl (Nat.le_of_ble_eq_true rfl) (by omega) (fun v1 hv1 => ?_)
    rw [e1] at hv1
    refine w_ifne i7_isMarkovBasis_21 (fun h21 => ?_) (fun h21 => ?_)
    · refine w_ii1 i7_isMarkovBasis_34 (by omega) ?_
      refine w_goto i7_isMarkovBasis_37 ?_
      first
      | (refine ih (k + 1) I1 F1 (by omega) hw.1 (step (Or.inr ?_))
         rcases hw.2 with ⟨-, g⟩ | ⟨g, -⟩
         · exact g
         · omega)
      | (refine ih (k + 1) I F (by omega) h (step (Or.inl ?_))
         rcases hv1 with ⟨-, g⟩ | ⟨g, -⟩
         · exact g
         · omega)
    · refine w_aload i7_isMarkovBasis_24 rfl ?_
      refine w_iload i7_isMarkovBasis_25 rfl ?_
      refine w_cVB i7_isMarkovBasis_26 f7_joinsItsParts v7_joinsItsParts (s7_joinsItsParts hcap (by omega) h hpos (by omega)) rfl rfl (by decide) rfl rfl (Nat.le_of_ble_eq_true rfl) (by omega) (fun w I1 F1 hw => ?_)
      refine w_ifne i7_isMarkovBasis_29 (fun h29 => ?_) (fun h29 => ?_)
      · refine w_ii1 i7_isMarkovBasis_34 (by omega) ?_
        refine w_goto i7_isMarkovBasis_37 ?_
        first
        | (refine ih (k + 1) I1 F1 (by omega) hw.1 (step (Or.inr ?_))
           rcases hw.2 with ⟨-, g⟩ | ⟨g, -⟩
           · exact g
           · omega)
        | (refine ih (k + 1) I F (by omega) h (step (Or.inl ?_))
           rcases hv1 with ⟨-, g⟩ | ⟨g, -⟩
           · exact g
           · omega)
      · refine K0 I1 F1 _ hw.1 (fun g => ?_)
        rcases g k (by omega) with g1 | g1
        · rcases hv1 with ⟨g, -⟩ | ⟨-, g⟩
          · omega
          · exact g g1
        · rcases hw.2 with ⟨g, -⟩ | ⟨-, g⟩
          · omega
          · exact g g1
theorem s7_isMarkovBasis {d : Nat} {I : IE} {F : FE} {S : Sx} (hcap : CapE) (hd : 7 ≤ d) (h : CI S I F) (hpos : Pos (gM S.1) (gC S.1)) : MB m7_isMarkovBasis d shX [rv 0] I F (fun v I' F' => CI S I' F' ∧ tf (MkO (gM S.1) (gC S.1) (gA S.1)) v) := by
  obtain ⟨q1, q3, bb, b4, b5⟩ := CB.E h.1.1.2.1 h.2.2.2.1
  have hB1 := h.2.2.2.1.2.1
  refine MS_of (ls := [lr 0, lu]) f7_isMarkovBasis rfl rfl (Nat.le_of_ble_eq_true rfl) ?_
  refine w_const i7_isMarkovBasis_0 ?_
  refine w_is1 i7_isMarkovBasis_1 ?_
  refine l7_imb hcap hd hpos (fun I F x g1 g2 => ?_) (fun I F x g1 g2 => ?_) (gk (gM S.1) (gC S.1)).toNat 0 I F (by omega) h (fun e he => absurd he (Nat.not_lt_zero _))
  · refine w_const i7_isMarkovBasis_40 ?_
    refine w_iret i7_isMarkovBasis_41 (Or.inr ⟨rfl, by omega⟩) ⟨Nat.le_refl _, Nat.le_refl _⟩ ?_
    exact ⟨rfl, _, rfl, g1, Or.inl ⟨rfl, g2⟩⟩
  · refine w_const i7_isMarkovBasis_32 ?_
    refine w_iret i7_isMarkovBasis_33 (Or.inr ⟨rfl, by omega⟩) ⟨Nat.le_refl _, Nat.le_refl _⟩ ?_
    exact ⟨rfl, _, rfl, g1, Or.inr ⟨rfl, g2⟩⟩
theorem s7_isMarkov {d : Nat} {I : IE} {F : FE} {S : Sx} (hcap : CapE) (hd : 8 ≤ d) (h : CI S I F) : MB m7_isMarkov d shX [rv 0] I F (fun v I' F' => CI S I' F' ∧ ((¬ Pos (gM S.1) (gC S.1) ∧ v = -1002) ∨ Pos (gM S.1) (gC S.1) ∧ tf (MkO (gM S.1) (gC S.1) (gA S.1)) v)) := by
  obtain ⟨v, s1, s2, s3, s4⟩ := id h.1
  have hn := v.2.1
  refine MS_of (ls := [lr 0]) f7_isMarkov rfl rfl (Nat.le_of_ble_eq_true rfl) ?_
  refine w_aload i7_isMarkov_0 rfl ?_
  refine w_getr i7_isMarkov_1 rfl rfl ?_
  refine w_cVP i7_isMarkov_4 f5_hasNoZeroColumn v5_hasNoZeroColumn (s5_hasNoZeroColumn (by omega) (by omega)) rfl rfl (by decide) rfl rfl (Nat.le_of_ble_eq_true rfl) (by omega) (fun v1 hv1 => ?_)
  rw [s2, s3] at hv1
  refine w_ifne i7_isMarkov_7 (fun h7 => ?_) (fun h7 => ?_)
  · refine w_aload i7_isMarkov_14 rfl ?_
    refine w_cVB i7_isMarkov_15 f7_isMarkovBasis v7_isMarkovBasis (s7_isMarkovBasis hcap (by omega) h (by rcases hv1 with ⟨-, a⟩ | ⟨a, -⟩; exact a; omega)) rfl rfl (by decide) rfl rfl (Nat.le_of_ble_eq_true rfl) (by omega) (fun w I1 F1 hq => ?_)
    refine w_cSR i7_isMarkov_18 f7_asNumber v7_asNumber (s7_asNumber (by rcases hq.2 with h | h <;> omega)) rfl rfl (Nat.le_of_ble_eq_true rfl) (by omega) ?_
    refine w_iret i7_isMarkov_21 (Or.inl rfl) ⟨Nat.le_refl _, Nat.le_refl _⟩ ?_
    exact ⟨rfl, _, rfl, hq.1, Or.inr ⟨by rcases hv1 with ⟨-, a⟩ | ⟨a, -⟩; exact a; omega, hq.2⟩⟩
  · refine w_const i7_isMarkov_10 ?_
    refine w_iret i7_isMarkov_13 (Or.inl rfl) ⟨Nat.le_refl _, Nat.le_refl _⟩ ?_
    exact ⟨rfl, _, rfl, h, Or.inl ⟨fun g => by rcases hv1 with ⟨a, -⟩ | ⟨-, a⟩; omega; exact a g, rfl⟩⟩
def swA (A : Nat → Int) (e : Nat) (v : Int) : Nat → Int := fun k => if k = e then v else A k
/-- the switches behind the elements below k, from k - 1 down -/
noncomputable def rdA (M : Int → Int) (n : Int) : Nat → (Nat → Int) → Nat → Int
  | 0, A => A
  | k + 1, A => rdA M n k (@ite _ (A k = 1 ∧ Jn M n (swA A k 0) k) (Classical.propDecidable _) (swA A k 0) A)
def stA (S : Sx) (A : Nat → Int) : Sx := ((gR S.1, gC S.1, gM S.1, gZ S.1, gY S.1, A), S.2)
theorem swA_1 {A : Nat → Int} {e : Nat} (h : A e = 1) : swA (swA A e 0) e 1 = A := by
  funext k
  unfold swA
  by_cases c : k = e
  · rw [if_pos c, c, h]
  · rw [if_neg c, if_neg c]
theorem s7_switchOffIfSpare {d : Nat} {I : IE} {F : FE} {S : Sx} {e : Nat} (hcap : CapE) (hd : 7 ≤ d) (h : CI S I F) (hpos : Pos (gM S.1) (gC S.1)) (he : (e : Int) < gk (gM S.1) (gC S.1)) (hA : gA S.1 e = 1) : MU m7_switchOffIfSpare d shX [rv 0, iv e] I F (fun I' F' => CI (stA S (@ite _ (Jn (gM S.1) (gC S.1) (swA (gA S.1) e 0) e) (Classical.propDecidable _) (swA (gA S.1) e 0) (gA S.1))) I' F') := by
  obtain ⟨v, s1, s2, s3, s4, s5, s6, s7⟩ := id h.1
  have hB1 := h.2.2.2.1.2.1
  obtain ⟨q1, q3, bb, b4, b5⟩ := CB.E h.1.1.2.1 h.2.2.2.1
  refine MS_of (ls := [lr 0, li e]) f7_switchOffIfSpare rfl rfl (Nat.le_of_ble_eq_true rfl) ?_
  refine w_aload i7_switchOffIfSpare_0 rfl ?_
  refine w_getr i7_switchOffIfSpare_1 rfl rfl ?_
  refine w_iload i7_switchOffIfSpare_4 rfl ?_
  refine w_const i7_switchOffIfSpare_5 ?_
  refine w_cVU i7_switchOffIfSpare_6 f5_switchTo v5_switchTo (s5_switchTo (by omega) (Or.inl rfl) s6) rfl rfl (by decide) rfl rfl (Nat.le_of_ble_eq_true rfl) (by omega) (fun I1 F1 hq => ?_)
  obtain ⟨rfl, x, rfl, x1, x2, x3⟩ := hq
  have c1 : CI (wA S e 0) (upI I 1 5 x) F1 := h.wA (Or.inl rfl) ⟨x1, x2⟩ (fun k hk => by rw [x3 k hk])
  refine w_aload i7_switchOffIfSpare_9 rfl ?_
  refine w_iload i7_switchOffIfSpare_10 rfl ?_
  refine w_cVB i7_switchOffIfSpare_11 f7_joinsItsParts v7_joinsItsParts (s7_joinsItsParts (S := wA S e 0) hcap (by omega) c1 hpos ⟨by omega, he⟩) rfl rfl (by decide) rfl rfl (Nat.le_of_ble_eq_true rfl) (by omega) (fun w I2 F2 hw => ?_)
  obtain ⟨c2, hw2⟩ := hw
  have t6 := c2.1.2.2.2.2.2.2.1
  refine w_ifne i7_switchOffIfSpare_14 (fun h14 => ?_) (fun h14 => ?_)
  · refine w_vret i7_switchOffIfSpare_26 rfl ⟨Nat.le_refl _, Nat.le_refl _⟩ ?_
    first
    | (have g : Jn (gM S.1) (gC S.1) (swA (gA S.1) e 0) e := by
         rcases hw2 with ⟨-, g⟩ | ⟨g, -⟩
         · exact g
         · omega
       rw [if_pos g]
       exact ⟨rfl, rfl, c2⟩)
    | (have g : ¬ Jn (gM S.1) (gC S.1) (swA (gA S.1) e 0) e := by
         rcases hw2 with ⟨g, -⟩ | ⟨-, g⟩
         · omega
         · exact g
       rw [if_neg g]
       obtain ⟨eF, z, rfl, z1, z2, z3⟩ := hr
       rw [eF]
       have c3 : CI (wA (wA S e 0) e 1) (upI I2 1 5 z) F2 := c2.wA (Or.inr rfl) ⟨z1, z2⟩ (fun k hk => by rw [z3 k hk])
       have e1 : wA (wA S e 0) e 1 = stA S (gA S.1) := by
         show ((gR S.1, gC S.1, gM S.1, gZ S.1, gY S.1, swA (swA (gA S.1) e 0) e 1), S.2) = stA S (gA S.1)
         rw [swA_1 hA]
         rfl
       rw [e1] at c3
       exact ⟨rfl, rfl, c3⟩)
  · refine w_aload i7_switchOffIfSpare_17 rfl ?_
    refine w_getr i7_switchOffIfSpare_18 rfl rfl ?_
    refine w_iload i7_switchOffIfSpare_21 rfl ?_
    refine w_const i7_switchOffIfSpare_22 ?_
    refine w_cVU i7_switchOffIfSpare_23 f5_switchTo v5_switchTo (s5_switchTo (by omega) (Or.inr rfl) t6) rfl rfl (by decide) rfl rfl (Nat.le_of_ble_eq_true rfl) (by omega) (fun I3 F3 hr => ?_)
    refine w_vret i7_switchOffIfSpare_26 rfl ⟨Nat.le_refl _, Nat.le_refl _⟩ ?_
    first
    | (have g : Jn (gM S.1) (gC S.1) (swA (gA S.1) e 0) e := by
         rcases hw2 with ⟨-, g⟩ | ⟨g, -⟩
         · exact g
         · omega
       rw [if_pos g]
       exact ⟨rfl, rfl, c2⟩)
    | (have g : ¬ Jn (gM S.1) (gC S.1) (swA (gA S.1) e 0) e := by
         rcases hw2 with ⟨g, -⟩ | ⟨-, g⟩
         · omega
         · exact g
       rw [if_neg g]
       obtain ⟨eF, z, rfl, z1, z2, z3⟩ := hr
       rw [eF]
       have c3 : CI (wA (wA S e 0) e 1) (upI I2 1 5 z) F2 := c2.wA (Or.inr rfl) ⟨z1, z2⟩ (fun k hk => by rw [z3 k hk])
       have e1 : wA (wA S e 0) e 1 = stA S (gA S.1) := by
         show ((gR S.1, gC S.1, gM S.1, gZ S.1, gY S.1, swA (swA (gA S.1) e 0) e 1), S.2) = stA S (gA S.1)
         rw [swA_1 hA]
         rfl
       rw [e1] at c3
       exact ⟨rfl, rfl, c3⟩)
theorem l7_red {d n0 : Nat} {Q : PQ} {S : Sx} (hcap : CapE) (hd : 8 ≤ d) (hpos : Pos (gM S.1) (gC S.1)) (A' : Nat → Int) (hA' : A' = rdA (gM S.1) (gC S.1) (gk (gM S.1) (gC S.1)).toNat (gA S.1))
    (K : ∀ I F x, CI (stA S A') I F → WS m7_reduce d 0 0 n0 Q 0 0 61 [lr 0, x] [] shX I F) :
    ∀ (k : Nat) (A : Nat → Int) (I : IE) (F : FE), (k : Int) ≤ gk (gM S.1) (gC S.1) → CI (stA S A) I F → rdA (gM S.1) (gC S.1) k A = A' → WS m7_reduce d 0 0 n0 Q 0 0 35 [lr 0, li ((k : Int) - 1)] [] shX I F := by
  intro k
  induction k with
  | zero =>
    intro A I F hk h hA
    refine w_iload i7_reduce_35 rfl ?_
    refine w_iflt i7_reduce_36 (fun h36 => ?_) (fun h_ => absurd h_ (by omega))
    have hA2 : A = A' := hA
    rw [hA2] at h
    exact K I F _ h
  | succ k ih =>
    intro A I F hk h hA
    have e0 : ((k + 1 : Nat) : Int) - 1 = (k : Int) := by omega
    rw [e0]
    obtain ⟨q1, q3, bb, b4, b5⟩ := CB.E h.1.1.2.1 h.2.2.2.1
    have q1' : I 42 0 = gk (gM S.1) (gC S.1) := q1
    have hB1 := h.2.2.2.1.2.1
    obtain ⟨v, s1, s2, s3, s4, s5, s6, s7⟩ := id h.1
    have e1 : bt (I 1 5) k = A k := s7 k (by omega)
    have e2 : (k : Int) + -1 = (k : Int) - 1 := by omega
    have hA2 : rdA (gM S.1) (gC S.1) k (@ite _ (A k = 1 ∧ Jn (gM S.1) (gC S.1) (swA A k 0) k) (Classical.propDecidable _) (swA A k 0) A) = A' := hA
    refine w_iload i7_reduce_35 rfl ?_
    refine w_iflt i7_reduce_36 (fun h_ => absurd h_ (by omega)) (fun h36 => ?_)
    refine w_aload i7_reduce_39 rfl ?_
    refine w_getr i7_reduce_40 rfl rfl ?_
    refine w_iload i7_reduce_43 rfl ?_
    refine w_cVP i7_reduce_44 f5_isOn v5_isOn (s5_isOn (by omega) s6) rfl rfl (by decide) rfl rfl (Nat.le_of_ble_eq_true rfl) (by omega) (fun v1 hv1 => ?_)
    rw [e1] at hv1
    refine w_ifeq i7_reduce_47 (fun h47 => ?_) (fun h47 => ?_)
    · refine w_ii1 i7_reduce_55 (by omega) ?_
      refine w_goto i7_reduce_58 ?_
      rw [e2]
      first
      | (rw [if_neg (fun g => by rcases hv1 with ⟨g1, -⟩ | ⟨-, g1⟩; omega; exact g1 g.1)] at hA2
         exact ih A I F (by omega) h hA2)
      | (have g0 : A k = 1 := by
           rcases hv1 with ⟨-, g⟩ | ⟨g, -⟩
           · exact g
           · omega
         refine ih _ I1 F1 (by omega) ?_ hA2
         by_cases c : Jn (gM S.1) (gC S.1) (swA A k 0) k
         · rw [if_pos ⟨g0, c⟩]
           have hw' := hw
           rw [show (@ite _ (Jn (gM (stA S A).1) (gC (stA S A).1) (swA (gA (stA S A).1) k 0) k) (Classical.propDecidable _) (swA (gA (stA S A).1) k 0) (gA (stA S A).1)) = swA A k 0 from if_pos c] at hw'
           exact hw'
         · rw [if_neg (fun g => c g.2)]
           have hw' := hw
           rw [show (@ite _ (Jn (gM (stA S A).1) (gC (stA S A).1) (swA (gA (stA S A).1) k 0) k) (Classical.propDecidable _) (swA (gA (stA S A).1) k 0) (gA (stA S A).1)) = A from if_neg c] at hw'
           exact hw')
    · refine w_aload i7_reduce_50 rfl ?_
      refine w_iload i7_reduce_51 rfl ?_
      refine w_cVU i7_reduce_52 f7_switchOffIfSpare v7_switchOffIfSpare (s7_switchOffIfSpare (S := stA S A) hcap (by omega) h hpos (by show (k : Int) < gk (gM S.1) (gC S.1); omega) (by rcases hv1 with ⟨-, g⟩ | ⟨g, -⟩; exact g; omega)) rfl rfl (by decide) rfl rfl (Nat.le_of_ble_eq_true rfl) (by omega) (fun I1 F1 hw => ?_)
      refine w_ii1 i7_reduce_55 (by omega) ?_
      refine w_goto i7_reduce_58 ?_
      rw [e2]
      first
      | (rw [if_neg (fun g => by rcases hv1 with ⟨g1, -⟩ | ⟨-, g1⟩; omega; exact g1 g.1)] at hA2
         exact ih A I F (by omega) h hA2)
      | (have g0 : A k = 1 := by
           rcases hv1 with ⟨-, g⟩ | ⟨g, -⟩
           · exact g
           · omega
         refine ih _ I1 F1 (by omega) ?_ hA2
         by_cases c : Jn (gM S.1) (gC S.1) (swA A k 0) k
         · rw [if_pos ⟨g0, c⟩]
           have hw' := hw
           rw [show (@ite _ (Jn (gM (stA S A).1) (gC (stA S A).1) (swA (gA (stA S A).1) k 0) k) (Classical.propDecidable _) (swA (gA (stA S A).1) k 0) (gA (stA S A).1)) = swA A k 0 from if_pos c] at hw'
           exact hw'
         · rw [if_neg (fun g => c g.2)]
           have hw' := hw
           rw [show (@ite _ (Jn (gM (stA S A).1) (gC (stA S A).1) (swA (gA (stA S A).1) k 0) k) (Classical.propDecidable _) (swA (gA (stA S A).1) k 0) (gA (stA S A).1)) = A from if_neg c] at hw'
           exact hw')
theorem l7_red61 {d n0 : Nat} {Q : PQ} {S : Sx} {I : IE} {F : FE} {A : Nat → Int} {x : Option AV} (hd : 2 ≤ d) (h : CI (stA S A) I F) (hQ : Q (some (.inl (ons A 16))) shX I F) : WS m7_reduce d 0 0 n0 Q 0 0 61 [lr 0, x] [] shX I F := by
  have t6 := h.1.2.2.2.2.2.2
  have e : bsum (I 1 5) 16 = ons A 16 := ons_bsum 16 (fun k hk => t6.2 k hk)
  refine w_aload i7_reduce_61 rfl ?_
  refine w_getr i7_reduce_62 rfl rfl ?_
  refine w_cVR i7_reduce_65 f5_countOn v5_countOn (s5_countOn (by omega) t6.1) rfl rfl (by decide) rfl rfl (Nat.le_of_ble_eq_true rfl) (by omega) ?_
  refine w_iret i7_reduce_68 (Or.inl rfl) ⟨Nat.le_refl _, Nat.le_refl _⟩ ?_
  rw [e]
  exact hQ
theorem s7_reduce {d : Nat} {I : IE} {F : FE} {S : Sx} (hcap : CapE) (hd : 8 ≤ d) (h : CI S I F) : MB m7_reduce d shX [rv 0] I F (fun v I' F' => (¬ (Pos (gM S.1) (gC S.1) ∧ MkO (gM S.1) (gC S.1) (gA S.1)) ∧ v = -1002 ∧ CI S I' F') ∨ (Pos (gM S.1) (gC S.1) ∧ MkO (gM S.1) (gC S.1) (gA S.1)) ∧ v = ons (rdA (gM S.1) (gC S.1) (gk (gM S.1) (gC S.1)).toNat (gA S.1)) 16 ∧ CI (stA (psh S) (rdA (gM S.1) (gC S.1) (gk (gM S.1) (gC S.1)).toNat (gA S.1))) I' F') := by
  obtain ⟨v, s1, s2, s3, s4⟩ := id h.1
  have hn := v.2.1
  refine MS_of (ls := [lr 0, lu]) f7_reduce rfl rfl (Nat.le_of_ble_eq_true rfl) ?_
  refine w_aload i7_reduce_0 rfl ?_
  refine w_getr i7_reduce_1 rfl rfl ?_
  refine w_cVP i7_reduce_4 f5_hasNoZeroColumn v5_hasNoZeroColumn (s5_hasNoZeroColumn (by omega) (by omega)) rfl rfl (by decide) rfl rfl (Nat.le_of_ble_eq_true rfl) (by omega) (fun v1 hv1 => ?_)
  rw [s2, s3] at hv1
  refine w_ifeq i7_reduce_7 (fun h7 => ?_) (fun h7 => ?_)
  · refine w_const i7_reduce_17 ?_
    refine w_iret i7_reduce_20 (Or.inl rfl) ⟨Nat.le_refl _, Nat.le_refl _⟩ ?_
    first
    | exact ⟨rfl, _, rfl, Or.inl ⟨fun g => by rcases hv1 with ⟨a, -⟩ | ⟨-, a⟩; omega; exact a g.1, rfl, h⟩⟩
    | exact ⟨rfl, _, rfl, Or.inl ⟨fun g => by rcases hq.2 with ⟨a, -⟩ | ⟨-, a⟩; omega; exact a g.2, rfl, hq.1⟩⟩
  · refine w_aload i7_reduce_10 rfl ?_
    refine w_cVB i7_reduce_11 f7_isMarkovBasis v7_isMarkovBasis (s7_isMarkovBasis hcap (by omega) h (by rcases hv1 with ⟨-, a⟩ | ⟨a, -⟩; exact a; omega)) rfl rfl (by decide) rfl rfl (Nat.le_of_ble_eq_true rfl) (by omega) (fun w I1 F1 hq => ?_)
    refine w_ifne i7_reduce_14 (fun h14 => ?_) (fun h14 => ?_)
    · refine w_aload i7_reduce_21 rfl ?_
      refine w_cVU i7_reduce_22 f7_save v7_save (s7_save (by omega) hq.1) rfl rfl (by decide) rfl rfl (Nat.le_of_ble_eq_true rfl) (by omega) (fun I2 F2 hr => ?_)
      have hPo : Pos (gM S.1) (gC S.1) := by rcases hv1 with ⟨-, a⟩ | ⟨a, -⟩; exact a; omega
      have hMk : MkO (gM S.1) (gC S.1) (gA S.1) := by rcases hq.2 with ⟨-, a⟩ | ⟨a, -⟩; exact a; omega
      obtain ⟨q1, q3, bb, b4, b5⟩ := CB.E hr.1.1.1.2.1 hr.1.2.2.2.1
      have q1' : I2 42 0 = gk (gM S.1) (gC S.1) := q1
      have hB1 := hr.1.2.2.2.1.2.1
      have e5 : I2 42 0 - 1 = ((gk (gM S.1) (gC S.1)).toNat : Int) - 1 := by omega
      refine w_aload i7_reduce_25 rfl ?_
      refine w_getr i7_reduce_26 rfl rfl ?_
      refine w_get i7_reduce_29 rfl rfl ?_
      refine w_const i7_reduce_32 ?_
      refine w_isub i7_reduce_33 (by omega) ?_
      refine w_is1 i7_reduce_34 ?_
      rw [e5]
      exact l7_red (S := psh S) hcap (by omega) hPo _ rfl (fun I3 F3 x hx => l7_red61 (by omega) hx ⟨rfl, _, rfl, Or.inr ⟨⟨hPo, hMk⟩, rfl, hx⟩⟩) (gk (gM S.1) (gC S.1)).toNat (gA S.1) I2 F2 (by show (((gk (gM S.1) (gC S.1)).toNat : Nat) : Int) ≤ gk (gM S.1) (gC S.1); omega) hr.1 rfl
    · refine w_const i7_reduce_17 ?_
      refine w_iret i7_reduce_20 (Or.inl rfl) ⟨Nat.le_refl _, Nat.le_refl _⟩ ?_
      first
      | exact ⟨rfl, _, rfl, Or.inl ⟨fun g => by rcases hv1 with ⟨a, -⟩ | ⟨-, a⟩; omega; exact a g.1, rfl, h⟩⟩
      | exact ⟨rfl, _, rfl, Or.inl ⟨fun g => by rcases hq.2 with ⟨a, -⟩ | ⟨-, a⟩; omega; exact a g.2, rfl, hq.1⟩⟩
