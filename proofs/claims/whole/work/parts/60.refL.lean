theorem ix_in {M y z : Int → Int} {n : Int} (hn : 2 ≤ n ∧ n ≤ 4) (hpos : Pos M n) (h : FibP M n y (fbm M n y, fbf M n y)) (hz : FSn M n (dt M y 0 n.toNat) (dt M y 1 n.toNat) z) : 0 ≤ ixo M n y z ∧ ixo M n y z < fbm M n y := by
  rcases ixo_ok M n y z with ⟨g1, g2, -⟩ | ⟨-, g⟩
  · exact ⟨g1, g2⟩
  · exfalso
    have f := hz.fs hn hpos
    have b := f.1
    have b0 := b 0 (by decide); have b1 := b 1 (by decide); have b2 := b 2 (by decide)
    obtain ⟨i, i0, i1, i2⟩ := (h.2.2 (cd4 (shf n z))).mpr ⟨_, f, by unfold pre3; omega, rfl⟩
    exact g i ⟨i0, i1⟩ i2
theorem dt_sub' {M u v w : Int → Int} {r : Int} : ∀ k : Nat, (∀ j : Int, 0 ≤ j ∧ j < k → u j = v j + w j) → dt M u r k = dt M v r k + dt M w r k
  | 0, _ => rfl
  | k + 1, h => by
    simp only [dt]
    rw [dt_sub' k (fun j hj => h j (by omega)), h k (by omega), Int.mul_add]
    omega
/-- both parts of an element are in its fiber -/
theorem gp_in {M : Int → Int} {n e : Int} (hn : 2 ≤ n ∧ n ≤ 4) (hb : ∀ j, 0 ≤ j ∧ j < n → -9 ≤ gE M n e j ∧ gE M n e j ≤ 9) (hk : KerF M n (gE M n e)) : FSn M n (dt M (gp M n e 1) 0 n.toNat) (dt M (gp M n e 1) 1 n.toNat) (gp M n e 1) ∧ FSn M n (dt M (gp M n e 1) 0 n.toNat) (dt M (gp M n e 1) 1 n.toNat) (gp M n e (-1)) := by
  have sp : ∀ r, dt M (gp M n e 1) r n.toNat = dt M (gp M n e (-1)) r n.toNat + dt M (gE M n e) r n.toNat := fun r => dt_sub' n.toNat (fun j _ => by
    unfold gp
    rw [Int.one_mul]
    split <;> split <;> omega)
  have s0 := sp 0
  have s1 := sp 1
  rw [hk.1] at s0
  rw [hk.2] at s1
  refine ⟨⟨fun j hj => by have := gp_b (M := M) (e := e) (s := 1) (Or.inl rfl) (hb j hj); omega, rfl, rfl⟩, fun j hj => by have := gp_b (M := M) (e := e) (s := -1) (Or.inr rfl) (hb j hj); omega, by omega, by omega⟩
theorem gp_0 {M : Int → Int} {n e s j : Int} (h : gE M n e j = 0) : gp M n e s j = 0 := by unfold gp; rw [h, Int.mul_zero]; rfl
theorem fD_iff {x : Int} : fD x = -1009 ↔ x < 0 := by unfold fD; split <;> omega
theorem r_isIndispensable {d : Nat} {I : IE} {F : FE} {S : Sx} {x : Int} (hE : CapER) (hd : 4 ≤ d) (h : DI S I F) : MB m8_isIndispensable d shM [rv 0, iv x] I F (fun v I' F' => DI S I' F' ∧ ((¬ (0 ≤ x ∧ x < gk (gM S.1) (gC S.1)) ∧ v = -1001) ∨ (0 ≤ x ∧ x < gk (gM S.1) (gC S.1)) ∧ ((¬ Pos (gM S.1) (gC S.1) ∧ v = -1002) ∨ Pos (gM S.1) (gC S.1) ∧ tf (fbm (gM S.1) (gC S.1) (gp (gM S.1) (gC S.1) x 1) = 2) v))) := by
  have hV := h.1.1
  have hn := hV.2.1
  have hM := hV.2.2.1
  have n2 := h.1.2.2.2.1
  have hb := h.2.1
  have hb2 := hb.2.1
  have hb1 := hb.1
  refine MS_of (ls := [lr 0, li x]) f8_isIndispensable rfl rfl (Nat.le_of_ble_eq_true rfl) ?_
  refine w_aload i8_isIndispensable_0 rfl ?_
  refine w_iload i8_isIndispensable_1 rfl ?_
  refine w_cVP i8_isIndispensable_2 f8_isElement v8_isElement (r_isElement (by omega) (by omega)) rfl rfl (by decide) rfl rfl (Nat.le_of_ble_eq_true rfl) (by omega) (fun v0 hv0 => ?_)
  refine w_ifne i8_isIndispensable_5 (fun h5 => ?_) (fun h5 => ?_)
  · refine w_aload i8_isIndispensable_12 rfl ?_
    refine w_cVP i8_isIndispensable_13 f8_isAllPositive v8_isAllPositive (r_isAllPositive (by omega) h.1.nm n2 (by omega)) rfl rfl (by decide) rfl rfl (Nat.le_of_ble_eq_true rfl) (by omega) (fun v1 hv1 => ?_)
    have hx : 0 ≤ x ∧ x < gk (gM S.1) (gC S.1) := by rcases hv0 with g | g <;> omega
    have hpos : v1 ≠ 0 → Pos (gM S.1) (gC S.1) := fun g => by rcases hv1 with ⟨-, a⟩ | ⟨a, -⟩; exact a; omega
    have hEe := DB.E hb x hx
    refine w_ifne i8_isIndispensable_16 (fun h16 => ?_) (fun h16 => ?_)
    · refine w_aload i8_isIndispensable_23 rfl ?_
      refine w_iload i8_isIndispensable_24 rfl ?_
      refine w_const i8_isIndispensable_25 ?_
      refine w_cVU i8_isIndispensable_26 f8_setGoal v8_setGoal (r_setGoal (u := gE (gM S.1) (gC S.1) x) (by omega) (Or.inl rfl) (fun j hj => by have := hEe.2.2.2 j hj; omega)) rfl rfl (by decide) rfl rfl (Nat.le_of_ble_eq_true rfl) (by omega) (fun I1 F1 hq => ?_)
      obtain ⟨rfl, g1, g2⟩ := hq
      have hPo := hpos (by assumption)
      have nm : NM (gM S.1) F1 := ⟨fun j hj => by rw [g2 1 (by decide)]; exact h.1.nm.1 j hj, hM⟩
      refine w_aload i8_isIndispensable_29 rfl ?_
      refine w_cVU i8_isIndispensable_30 f8_layFiber v8_layFiber (r_layFiber (M := gM S.1) (y := gp (gM S.1) (gC S.1) x 1) (by omega) nm (by rw [g2 1 (by decide)]; exact n2) hn hPo (fun j hj => ⟨by rw [g1 j (by omega)]; rfl, gp_b (Or.inl rfl) (hEe.1 j hj)⟩) (hE _ _ _ hn hM hPo hb.2.2.2 hx)) rfl rfl (by decide) rfl rfl (Nat.le_of_ble_eq_true rfl) (by omega) (fun I2 F2 hr => ?_)
      have e14 := hr.2.1
      have dO : DI S I2 F2 := h.O ⟨hr.1.O.1, fun a ha => by rw [hr.1.O.2 a ha, g2 a (by omega)]⟩
      refine w_aload i8_isIndispensable_33 rfl ?_
      refine w_get i8_isIndispensable_34 rfl rfl ?_
      refine w_const i8_isIndispensable_37 ?_
      refine w_icmpne i8_isIndispensable_38 (fun h38 => ?_) (fun h38 => ?_)
      · refine w_const i8_isIndispensable_45 ?_
        refine w_iret i8_isIndispensable_46 (Or.inl rfl) ⟨Nat.le_refl _, Nat.le_refl _⟩ ?_
        first
        | (refine ⟨rfl, 1, rfl, dO, Or.inr ⟨hx, Or.inr ⟨hPo, Or.inl ⟨rfl, ?_⟩⟩⟩⟩
           omega)
        | (refine ⟨rfl, 0, rfl, dO, Or.inr ⟨hx, Or.inr ⟨hPo, Or.inr ⟨rfl, ?_⟩⟩⟩⟩
           omega)
      · refine w_const i8_isIndispensable_41 ?_
        refine w_goto i8_isIndispensable_42 ?_
        refine w_iret i8_isIndispensable_46 (Or.inl rfl) ⟨Nat.le_refl _, Nat.le_refl _⟩ ?_
        first
        | (refine ⟨rfl, 1, rfl, dO, Or.inr ⟨hx, Or.inr ⟨hPo, Or.inl ⟨rfl, ?_⟩⟩⟩⟩
           omega)
        | (refine ⟨rfl, 0, rfl, dO, Or.inr ⟨hx, Or.inr ⟨hPo, Or.inr ⟨rfl, ?_⟩⟩⟩⟩
           omega)
    · refine w_const i8_isIndispensable_19 ?_
      refine w_iret i8_isIndispensable_22 (Or.inl rfl) ⟨Nat.le_refl _, Nat.le_refl _⟩ ?_
      refine ⟨rfl, _, rfl, h, Or.inr ⟨hx, Or.inl ⟨fun g => ?_, rfl⟩⟩⟩
      rcases hv1 with ⟨a, -⟩ | ⟨-, a⟩
      · omega
      · exact a g
  · refine w_const i8_isIndispensable_8 ?_
    refine w_iret i8_isIndispensable_11 (Or.inl rfl) ⟨Nat.le_refl _, Nat.le_refl _⟩ ?_
    exact ⟨rfl, _, rfl, h, Or.inl ⟨by rcases hv0 with g | g <;> omega, rfl⟩⟩
theorem lr_cl {d n0 : Nat} {Q : PQ} {I : IE} {F : FE} {S : Sx} {y : Int → Int} {m k : Nat} (hd : 5 ≤ d) (hS : SrH S y I F) (hm : (m : Int) = fbm (gM S.1) (gC S.1) y) (hk : (k : Int) = gk (gM S.1) (gC S.1))
    (K : ∀ x I' F', Sfr I I' F F' → WS m8_classes d 0 0 n0 Q 0 0 57 [lr 0, li (bcls (nxo (gM S.1) (gC S.1) y) (acI (gA S.1)) (2 * k) m m).1, x] [] shM I' F') :
    ∀ (w j : Nat) (I' : IE) (F' : FE), j + w = m → Sfr I I' F F' → (bcls (nxo (gM S.1) (gC S.1) y) (acI (gA S.1)) (2 * k) m j).1 ≤ j → 0 ≤ (bcls (nxo (gM S.1) (gC S.1) y) (acI (gA S.1)) (2 * k) m j).1 → (∀ i : Int, 0 ≤ i ∧ i < m → F' 12 i = fD ((bcls (nxo (gM S.1) (gC S.1) y) (acI (gA S.1)) (2 * k) m j).2 i)) → WS m8_classes d 0 0 n0 Q 0 0 23 [lr 0, li (bcls (nxo (gM S.1) (gC S.1) y) (acI (gA S.1)) (2 * k) m j).1, li j] [] shM I' F' := by
  have fm := hS.2.2.2.2.1.2.1
  have gk15 := hS.1.2.1
  have em : (fbm (gM S.1) (gC S.1) y).toNat = m := by omega
  have ekk : (gk (gM S.1) (gC S.1)).toNat = k := by omega
  intro w
  induction w with
  | zero =>
    intro j I' F' hw hf _ _ hW
    obtain rfl : j = m := by omega
    have e14 : I' 0 14 = j := by rw [hf.1 0 14 (by omega), hS.2.2.2.2.1.1, hm]
    refine w_iload i8_classes_23 rfl ?_
    refine w_aload i8_classes_24 rfl ?_
    refine w_get i8_classes_25 rfl rfl ?_
    refine w_icmpge i8_classes_28 (fun h28 => ?_) (fun h_ => absurd h_ (by omega))
    exact K _ I' F' hf
  | succ w ih =>
    intro j I' F' hw hf hl1 hl2 hW
    have e14 : I' 0 14 = m := by rw [hf.1 0 14 (by omega), hS.2.2.2.2.1.1, hm]
    have e6 := hW j ⟨by omega, by omega⟩
    have hS' := hS.S hf
    have ej : ((j + 1 : Nat) : Int) = (j : Int) + 1 := by omega
    by_cases hc : (bcls (nxo (gM S.1) (gC S.1) y) (acI (gA S.1)) (2 * k) m j).2 j < 0
    · have g : bcls (nxo (gM S.1) (gC S.1) y) (acI (gA S.1)) (2 * k) m (j + 1) = ((bcls (nxo (gM S.1) (gC S.1) y) (acI (gA S.1)) (2 * k) m j).1 + 1, bfrom (nxo (gM S.1) (gC S.1) y) (acI (gA S.1)) (2 * k) m (bcls (nxo (gM S.1) (gC S.1) y) (acI (gA S.1)) (2 * k) m j).2 j) := if_pos hc
      have e7 : F' 12 j = -1009 := by rw [e6]; exact fD_iff.mpr hc
      refine w_iload i8_classes_23 rfl ?_
      refine w_aload i8_classes_24 rfl ?_
      refine w_get i8_classes_25 rfl rfl ?_
      refine w_icmpge i8_classes_28 (fun h_ => absurd h_ (by omega)) (fun h28 => ?_)
      refine w_aload i8_classes_31 rfl ?_
      refine w_getr i8_classes_32 rfl rfl ?_
      refine w_iload i8_classes_35 rfl ?_
      refine w_iald i8_classes_36 rfl (by omega) ?_
      refine w_const i8_classes_37 ?_
      refine w_icmpne i8_classes_40 (fun h_ => absurd h_ (by rw [e7]; exact fun h => h rfl)) (fun h40 => ?_)
      refine w_aload i8_classes_43 rfl ?_
      refine w_iload i8_classes_44 rfl ?_
      refine w_cVU i8_classes_45 f8_search v8_search (r_search (y := y) (D := (bcls (nxo (gM S.1) (gC S.1) y) (acI (gA S.1)) (2 * k) m j).2) (by omega) hS' (by omega) (fun i hi => hW i (by omega)) hc) rfl rfl (by decide) rfl rfl (Nat.le_of_ble_eq_true rfl) (by omega) (fun I1 F1 hq => ?_)
      refine w_ii1 i8_classes_48 (by omega) ?_
      refine w_ii2 i8_classes_51 (by omega) ?_
      refine w_goto i8_classes_54 ?_
      rw [← ej]
      have g1 : (bcls (nxo (gM S.1) (gC S.1) y) (acI (gA S.1)) (2 * k) m (j + 1)).1 = (bcls (nxo (gM S.1) (gC S.1) y) (acI (gA S.1)) (2 * k) m j).1 + 1 := by rw [g]
      have g2 : (bcls (nxo (gM S.1) (gC S.1) y) (acI (gA S.1)) (2 * k) m (j + 1)).2 = bfrom (nxo (gM S.1) (gC S.1) y) (acI (gA S.1)) (2 * k) m (bcls (nxo (gM S.1) (gC S.1) y) (acI (gA S.1)) (2 * k) m j).2 j := by rw [g]
      have := ih (j + 1) I1 F1 (by omega) (hf.tr hq.1) (by rw [g1]; omega) (by rw [g1]; omega) (fun i hi => by
        rw [g2]
        have := hq.2 i (by omega)
        rw [em, ekk] at this
        exact this)
      rw [g1] at this
      exact this
    · have g : bcls (nxo (gM S.1) (gC S.1) y) (acI (gA S.1)) (2 * k) m (j + 1) = bcls (nxo (gM S.1) (gC S.1) y) (acI (gA S.1)) (2 * k) m j := if_neg hc
      have e7 : ¬ F' 12 j = -1009 := by rw [e6]; exact fun h => hc (fD_iff.mp h)
      refine w_iload i8_classes_23 rfl ?_
      refine w_aload i8_classes_24 rfl ?_
      refine w_get i8_classes_25 rfl rfl ?_
      refine w_icmpge i8_classes_28 (fun h_ => absurd h_ (by omega)) (fun h28 => ?_)
      refine w_aload i8_classes_31 rfl ?_
      refine w_getr i8_classes_32 rfl rfl ?_
      refine w_iload i8_classes_35 rfl ?_
      refine w_iald i8_classes_36 rfl (by omega) ?_
      refine w_const i8_classes_37 ?_
      refine w_icmpne i8_classes_40 (fun h40 => ?_) (fun h_ => absurd h_ (e7))
      refine w_ii2 i8_classes_51 (by omega) ?_
      refine w_goto i8_classes_54 ?_
      rw [← ej]
      have := ih (j + 1) I' F' (by omega) hf (by rw [g]; omega) (by rw [g]; exact hl2) (by rw [g]; exact hW)
      rw [g] at this
      exact this
theorem r_classes {d : Nat} {I : IE} {F : FE} {S : Sx} (hP : CapPR) (hd : 6 ≤ d) (h : DI S I F) : MB m8_classes d shM [rv 0] I F (fun v I' F' => DI S I' F' ∧ ((¬ Pos (gM S.1) (gC S.1) ∧ v = -1002) ∨ Pos (gM S.1) (gC S.1) ∧ v = ncl (gM S.1) (gC S.1) (gY S.1) (gA S.1))) := by
  have hn := h.1.1.2.1
  have hy : ∀ j, 0 ≤ gY S.1 j ∧ gY S.1 j ≤ 5 := h.1.1.2.2.2.2.2.2.1
  refine MS_of (ls := [lr 0, lu, lu]) f8_classes rfl rfl (Nat.le_of_ble_eq_true rfl) ?_
  refine w_aload i8_classes_0 rfl ?_
  refine w_cVP i8_classes_1 f8_isAllPositive v8_isAllPositive (r_isAllPositive (by omega) h.1.nm h.1.2.2.2.1 (by omega)) rfl rfl (by decide) rfl rfl (Nat.le_of_ble_eq_true rfl) (by omega) (fun v1 hv1 => ?_)
  have hpos : v1 ≠ 0 → Pos (gM S.1) (gC S.1) := fun g => by rcases hv1 with ⟨-, a⟩ | ⟨a, -⟩; exact a; omega
  refine w_ifne i8_classes_4 (fun h4 => ?_) (fun h4 => ?_)
  · refine w_aload i8_classes_11 rfl ?_
    refine w_cVU i8_classes_12 f8_layFiberOfPoint v8_layFiberOfPoint (r_layFiberOfPoint hP (by omega) h (hpos (by assumption))) rfl rfl (by decide) rfl rfl (Nat.le_of_ble_eq_true rfl) (by omega) (fun I1 F1 hq => ?_)
    have hPo := hpos (by assumption)
    obtain ⟨hf, hR, h10⟩ := hq
    have e14 := hR.1
    have fm := hR.2.1
    refine w_aload i8_classes_15 rfl ?_
    refine w_cVU i8_classes_16 f8_clearFar v8_clearFar (r_clearFar e14 (by omega)) rfl rfl (by decide) rfl rfl (Nat.le_of_ble_eq_true rfl) (by omega) (fun I2 F2 hr => ?_)
    obtain ⟨rfl, c1, c2⟩ := hr
    have hf2 : Ofr I I2 F F2 := ⟨hf.1, fun a ha => by rw [c2 a (by omega), hf.2 a ha]⟩
    have hS := h.srh hf2 hPo (fun j hj => by have := hy j; omega) (hR.kp rfl (c2 9 (by decide)))
    obtain ⟨m, hm⟩ : ∃ m : Nat, (m : Int) = fbm (gM S.1) (gC S.1) (gY S.1) := ⟨(fbm (gM S.1) (gC S.1) (gY S.1)).toNat, by omega⟩
    have gk15 := h.2.1.2.1
    obtain ⟨k, hk⟩ : ∃ k : Nat, (k : Int) = gk (gM S.1) (gC S.1) := ⟨(gk (gM S.1) (gC S.1)).toNat, by omega⟩
    refine w_const i8_classes_19 ?_
    refine w_is1 i8_classes_20 ?_
    refine w_const i8_classes_21 ?_
    refine w_is2 i8_classes_22 ?_
    refine lr_cl (y := gY S.1) (by omega) hS hm hk (fun x I3 F3 g => ?_) m 0 I2 F2 (by omega) Sfr.rf (Int.le_refl _) (Int.le_refl _) (fun i hi => by rw [c1 i (by omega)]; rfl)
    refine w_iload i8_classes_57 rfl ?_
    refine w_iret i8_classes_58 (Or.inl rfl) ⟨Nat.le_refl _, Nat.le_refl _⟩ ?_
    refine ⟨rfl, _, rfl, h.O (hf2.tr g.O), Or.inr ⟨hPo, ?_⟩⟩
    unfold ncl
    rw [show (fbm (gM S.1) (gC S.1) (gY S.1)).toNat = m by omega, show (gk (gM S.1) (gC S.1)).toNat = k by omega]
  · refine w_const i8_classes_7 ?_
    refine w_iret i8_classes_10 (Or.inl rfl) ⟨Nat.le_refl _, Nat.le_refl _⟩ ?_
    refine ⟨rfl, _, rfl, h, Or.inl ⟨fun g => ?_, rfl⟩⟩
    rcases hv1 with ⟨a, -⟩ | ⟨-, a⟩
    · omega
    · exact a g
theorem r_distance {d : Nat} {I : IE} {F : FE} {S : Sx} {x : Int} (hP : CapPR) (hd : 6 ≤ d) (h : DI S I F) : MB m8_distance d shM [rv 0, iv x] I F (fun v I' F' => DI S I' F' ∧ ((x < 0 ∧ v = -1001) ∨ 0 ≤ x ∧ ((¬ Pos (gM S.1) (gC S.1) ∧ v = -1002) ∨ Pos (gM S.1) (gC S.1) ∧ v = if stp (gM S.1) (gC S.1) (gY S.1) (gA S.1) (ixo (gM S.1) (gC S.1) (gY S.1) (gY S.1)) x < 0 then -1009 else stp (gM S.1) (gC S.1) (gY S.1) (gA S.1) (ixo (gM S.1) (gC S.1) (gY S.1) (gY S.1)) x))) := by
  have hn := h.1.1.2.1
  have hy : ∀ j, 0 ≤ gY S.1 j ∧ gY S.1 j ≤ 5 := h.1.1.2.2.2.2.2.2.1
  have hy0 : ∀ j, (j < 0 ∨ gC S.1 ≤ j) → gY S.1 j = 0 := h.1.1.2.2.2.2.2.2.2.1
  refine MS_of (ls := [lr 0, li x]) f8_distance rfl rfl (Nat.le_of_ble_eq_true rfl) ?_
  refine w_iload i8_distance_0 rfl ?_
  refine w_ifge i8_distance_1 (fun h1 => ?_) (fun h1 => ?_)
  · refine w_aload i8_distance_8 rfl ?_
    refine w_cVP i8_distance_9 f8_isAllPositive v8_isAllPositive (r_isAllPositive (by omega) h.1.nm h.1.2.2.2.1 (by omega)) rfl rfl (by decide) rfl rfl (Nat.le_of_ble_eq_true rfl) (by omega) (fun v1 hv1 => ?_)
    have hpos : v1 ≠ 0 → Pos (gM S.1) (gC S.1) := fun g => by rcases hv1 with ⟨-, a⟩ | ⟨a, -⟩; exact a; omega
    refine w_ifne i8_distance_12 (fun h12 => ?_) (fun h12 => ?_)
    · refine w_aload i8_distance_19 rfl ?_
      refine w_cVU i8_distance_20 f8_layFiberOfPoint v8_layFiberOfPoint (r_layFiberOfPoint hP (by omega) h (hpos (by assumption))) rfl rfl (by decide) rfl rfl (Nat.le_of_ble_eq_true rfl) (by omega) (fun I1 F1 hq => ?_)
      have hPo := hpos (by assumption)
      obtain ⟨hf, hR, h10⟩ := hq
      have e14 := hR.1
      have fm := hR.2.1
      have ix := ix_in (z := gY S.1) hn hPo hR.2.2.2 ⟨fun j _ => by have := hy j; omega, rfl, rfl⟩
      refine w_aload i8_distance_23 rfl ?_
      refine w_cVU i8_distance_24 f8_clearFar v8_clearFar (r_clearFar e14 (by omega)) rfl rfl (by decide) rfl rfl (Nat.le_of_ble_eq_true rfl) (by omega) (fun I2 F2 hr => ?_)
      obtain ⟨rfl, c1, c2⟩ := hr
      refine w_aload i8_distance_27 rfl ?_
      refine w_aload i8_distance_28 rfl ?_
      refine w_cVB i8_distance_29 f8_numberOfGoal v8_numberOfGoal (r_numberOfGoal (M := gM S.1) (y := gY S.1) (z := gY S.1) (n := gC S.1) (by omega) hn (hR.kp rfl (c2 9 (by decide))) (fun j hj => ⟨by rw [c2 10 (by decide)]; exact h10 j hj, by have := hy j; omega⟩) (fun j hj => hy0 j (by omega)) ix.1) rfl rfl (by decide) rfl rfl (Nat.le_of_ble_eq_true rfl) (by omega) (fun s I3 F3 hs => ?_)
      obtain ⟨rfl, rfl, p3⟩ := hs
      have hf3 : Ofr I I3 F F3 := ⟨hf.1, fun a ha => by rw [p3 a (by omega), c2 a (by omega), hf.2 a ha]⟩
      have hS := h.srh hf3 hPo (fun j hj => by have := hy j; omega) (hR.kp rfl (by rw [p3 9 (by decide), c2 9 (by decide)]))
      refine w_cVU i8_distance_32 f8_search v8_search (r_search (y := gY S.1) (D := fun _ => -1) (by omega) hS ix (fun j hj => by rw [p3 12 (by decide), c1 j hj]; rfl) (show (-1 : Int) < 0 by decide)) rfl rfl (by decide) rfl rfl (Nat.le_of_ble_eq_true rfl) (by omega) (fun I4 F4 hw => ?_)
      have f14 : I4 0 14 = fbm (gM S.1) (gC S.1) (gY S.1) := by rw [hw.1.1 0 14 (by omega)]; exact e14
      have dO := h.O (hf3.tr hw.1.O)
      refine w_iload i8_distance_35 rfl ?_
      refine w_aload i8_distance_36 rfl ?_
      refine w_get i8_distance_37 rfl rfl ?_
      refine w_icmpge i8_distance_40 (fun h40 => ?_) (fun h40 => ?_)
      · refine w_const i8_distance_52 ?_
        refine w_iret i8_distance_55 (Or.inl rfl) ⟨Nat.le_refl _, Nat.le_refl _⟩ ?_
        first
        | (have e := hw.2 x (by omega)
           have st : stp (gM S.1) (gC S.1) (gY S.1) (gA S.1) (ixo (gM S.1) (gC S.1) (gY S.1) (gY S.1)) x = bfrom (nxo (gM S.1) (gC S.1) (gY S.1)) (acI (gA S.1)) (2 * (gk (gM S.1) (gC S.1)).toNat) (fbm (gM S.1) (gC S.1) (gY S.1)).toNat (fun _ => -1) (ixo (gM S.1) (gC S.1) (gY S.1) (gY S.1)) x := by
             unfold stp
             rw [if_pos (by omega)]
           refine ⟨rfl, _, rfl, dO, Or.inr ⟨by omega, Or.inr ⟨hPo, ?_⟩⟩⟩
           rw [e, st]
           rfl)
        | (have st : stp (gM S.1) (gC S.1) (gY S.1) (gA S.1) (ixo (gM S.1) (gC S.1) (gY S.1) (gY S.1)) x = -1 := by
             unfold stp
             rw [if_neg (by omega)]
           refine ⟨rfl, -1009, rfl, dO, Or.inr ⟨by omega, Or.inr ⟨hPo, ?_⟩⟩⟩
           rw [st]
           rfl)
      · refine w_aload i8_distance_43 rfl ?_
        refine w_getr i8_distance_44 rfl rfl ?_
        refine w_iload i8_distance_47 rfl ?_
        refine w_iald i8_distance_48 rfl (by omega) ?_
        refine w_goto i8_distance_49 ?_
        refine w_iret i8_distance_55 (Or.inl rfl) ⟨Nat.le_refl _, Nat.le_refl _⟩ ?_
        first
        | (have e := hw.2 x (by omega)
           have st : stp (gM S.1) (gC S.1) (gY S.1) (gA S.1) (ixo (gM S.1) (gC S.1) (gY S.1) (gY S.1)) x = bfrom (nxo (gM S.1) (gC S.1) (gY S.1)) (acI (gA S.1)) (2 * (gk (gM S.1) (gC S.1)).toNat) (fbm (gM S.1) (gC S.1) (gY S.1)).toNat (fun _ => -1) (ixo (gM S.1) (gC S.1) (gY S.1) (gY S.1)) x := by
             unfold stp
             rw [if_pos (by omega)]
           refine ⟨rfl, _, rfl, dO, Or.inr ⟨by omega, Or.inr ⟨hPo, ?_⟩⟩⟩
           rw [e, st]
           rfl)
        | (have st : stp (gM S.1) (gC S.1) (gY S.1) (gA S.1) (ixo (gM S.1) (gC S.1) (gY S.1) (gY S.1)) x = -1 := by
             unfold stp
             rw [if_neg (by omega)]
           refine ⟨rfl, -1009, rfl, dO, Or.inr ⟨by omega, Or.inr ⟨hPo, ?_⟩⟩⟩
           rw [st]
           rfl)
    · refine w_const i8_distance_15 ?_
      refine w_iret i8_distance_18 (Or.inl rfl) ⟨Nat.le_refl _, Nat.le_refl _⟩ ?_
      refine ⟨rfl, _, rfl, h, Or.inr ⟨by omega, Or.inl ⟨fun g => ?_, rfl⟩⟩⟩
      rcases hv1 with ⟨a, -⟩ | ⟨-, a⟩
      · omega
      · exact a g
  · refine w_const i8_distance_4 ?_
    refine w_iret i8_distance_7 (Or.inl rfl) ⟨Nat.le_refl _, Nat.le_refl _⟩ ?_
    exact ⟨rfl, _, rfl, h, Or.inl ⟨by omega, rfl⟩⟩
