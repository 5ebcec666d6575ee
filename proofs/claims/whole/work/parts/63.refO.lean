theorem asum_tr {n : Int} {u : Int → Int} (hn : 0 ≤ n ∧ n ≤ 4) : asum (trn n u) 4 = asum u n.toNat := by
  rw [asum_n (z := trn n u) hn (fun j hj => if_neg (by omega)), asum_trn hn.1]
theorem asum_zero {u : Int → Int} : ∀ k : Nat, (∀ j : Int, 0 ≤ j ∧ j < k → u j = 0) → asum u k = 0
  | 0, _ => rfl
  | k + 1, h => by
    simp only [asum]
    rw [asum_zero k (fun j hj => h j (by omega)), h k (by omega)]
    rfl
theorem nz_cf {n : Int} {u v : Int → Int} (h : nz n u) (g : cf n u v) : nz n v := by
  obtain ⟨j, j0, j1, j2⟩ := h
  have := g j ⟨j0, j1⟩
  exact ⟨j, j0, j1, by unfold c1 at this; omega⟩
theorem cvec_nz {M : Int → Int} {n c : Int} (hk : ∀ e, 0 ≤ e ∧ e < gk M n → nz n (gE M n e)) (hc : 0 ≤ c ∧ c < 2 * gk M n) : nz n (cvec (gE M n) c) := by
  obtain ⟨j, j0, j1, j2⟩ := hk (c / 2) (by omega)
  refine ⟨j, j0, j1, ?_⟩
  unfold cvec
  split
  · exact j2
  · unfold ng; omega
theorem isF_ext {n : Int} {E : Int → Int → Int} {r r' : Int → Int} {c : Int} (e : ∀ j, 0 ≤ j ∧ j < n → r j = r' j) (h : isF n E r c) : isF n E r' c :=
  ⟨cf_ext (fun _ _ => rfl) e h.1, fun c' hc' g => h.2 c' hc' (cf_ext (fun _ _ => rfl) (fun j hj => (e j hj).symm) g)⟩
theorem tval_0 {c : Int} (h : 0 ≤ c) : tval c ≠ 0 := by unfold tval; split <;> omega
def dcv (x : Int) (len : Nat) (C : Nat → Int) : Int := if x < 0 then (len : Int) else if x < len then tval (C x.toNat) else 0
theorem lr_dc30 {d n0 : Nat} {Q : PQ} {I : IE} {F : FE} {M w : Int → Int} {n x : Int} {len : Nat} {R : Nat → Int → Int} {C : Nat → Int} (hd : 3 ≤ d) (hn : 2 ≤ n ∧ n ≤ 4) (h5 : I 0 5 = gk M n) (hk : 0 ≤ gk M n ∧ gk M n ≤ 15) (hE : ∀ e, 0 ≤ e ∧ e < gk M n → nz n (gE M n e) ∧ (∀ j, n ≤ j ∧ j < 4 → gE M n e j = 0) ∧ ∀ j, 0 ≤ j ∧ j < 4 → F 4 (4 * e + j) = gE M n e j ∧ -9 ≤ gE M n e j ∧ gE M n e j ≤ 9) (hw : ∀ j, 0 ≤ j ∧ j < n → -30 ≤ w j ∧ w j ≤ 30) (hD : DecF M n w len R C)
    (K : ∀ F', (∀ a, a ≠ 14 → F' a = F a) → Q (some (.inl (dcv x len C))) shM I F') :
    ∀ (m i : Nat) (y3 y4 : Option AV) (F' : FE), i + m = len → (x < 0 ∨ (i : Int) ≤ x) → (∀ j, 0 ≤ j ∧ j < 4 → F' 14 j = trn n (R i) j) → (∀ a, a ≠ 14 → F' a = F a) → WS m8_decompose d 0 0 n0 Q 0 0 30 [lr 0, li x, li i, y3, y4] [] shM I F' := by
  obtain ⟨d1, d2, d3, d4, d5⟩ := id hD
  have bR : ∀ i : Nat, i ≤ len → ∀ j, 0 ≤ j ∧ j < 4 → -30 ≤ trn n (R i) j ∧ trn n (R i) j ≤ 30 := fun i hi j hj => by
    unfold trn
    split
    · rename_i c
      have := d5 i hi j c
      have := hw j c
      unfold c1 at *; omega
    · decide
  have l120 : len ≤ 120 := by
    have key : ∀ k : Nat, (k : Int) ≤ n → asum w k ≤ 30 * (k : Int) := by
      intro k
      induction k with
      | zero => intro _; simp [asum]
      | succ k ih =>
        intro hk
        have h1 := ih (by omega)
        have h2 := ab_b (hw k (by omega))
        simp only [asum]
        omega
    have := key n.toNat (by omega)
    omega
  intro m
  induction m with
  | zero =>
    intro i y3 y4 F' hi hx h1 h2
    obtain rfl : i = len := by omega
    have z : asum (trn n (R i)) 4 = 0 := by rw [asum_tr (by omega)]; exact asum_zero _ (fun j hj => d3 j (by omega))
    refine w_aload i8_decompose_30 rfl ?_
    refine w_getr i8_decompose_31 rfl rfl ?_
    refine w_const i8_decompose_34 ?_
    refine w_cSR i8_decompose_35 f8_norm v8_norm (r_norm (v := trn n (R i)) (N := 4) (by omega) (by decide) rfl (by decide) (fun j hj => ⟨by rw [Int.zero_add]; exact h1 j hj, by have := bR i (Nat.le_refl _) j hj; omega⟩)) rfl rfl (Nat.le_of_ble_eq_true rfl) (by omega) ?_
    refine w_ifle i8_decompose_38 (fun h38 => ?_) (fun h_ => absurd h_ (by omega))
    refine w_iload i8_decompose_119 rfl ?_
    refine w_ifge i8_decompose_120 (fun h120 => ?_) (fun h120 => ?_)
    · refine w_const i8_decompose_127 ?_
      refine w_iret i8_decompose_128 (Or.inl rfl) ⟨Nat.le_refl _, Nat.le_refl _⟩ ?_
      first
      | (have e : dcv x i C = (i : Int) := by unfold dcv; rw [if_pos (by omega)]
         rw [← e]
         exact K F' h2)
      | (have e : dcv x i C = 0 := by unfold dcv; rw [if_neg (by omega), if_neg (by omega)]
         rw [← e]
         exact K F' h2)
    · refine w_iload i8_decompose_123 rfl ?_
      refine w_goto i8_decompose_124 ?_
      refine w_iret i8_decompose_128 (Or.inl rfl) ⟨Nat.le_refl _, Nat.le_refl _⟩ ?_
      first
      | (have e : dcv x i C = (i : Int) := by unfold dcv; rw [if_pos (by omega)]
         rw [← e]
         exact K F' h2)
      | (have e : dcv x i C = 0 := by unfold dcv; rw [if_neg (by omega), if_neg (by omega)]
         rw [← e]
         exact K F' h2)
  | succ m ih =>
    intro i y3 y4 F' hi hx h1 h2
    obtain ⟨b1, b2, b3⟩ := d2 i (by omega)
    have e4 : F' 4 = F 4 := h2 4 (by decide)
    have rn : nz n (R i) := nz_cf (cvec_nz (fun e he => (hE e he).1) b1) b2.1
    have pos : 1 ≤ asum (trn n (R i)) 4 := by
      rw [asum_tr (by omega)]
      obtain ⟨j, j0, j1, j2⟩ := rn
      exact asum_pos (j := j) _ (by omega) j2
    have ek : ((i + 1 : Nat) : Int) = (i : Int) + 1 := by omega
    obtain ⟨u0, u1, u2⟩ := hE (C i / 2) (by omega)
    refine w_aload i8_decompose_30 rfl ?_
    refine w_getr i8_decompose_31 rfl rfl ?_
    refine w_const i8_decompose_34 ?_
    refine w_cSR i8_decompose_35 f8_norm v8_norm (r_norm (v := trn n (R i)) (N := 4) (by omega) (by decide) rfl (by decide) (fun j hj => ⟨by rw [Int.zero_add]; exact h1 j hj, by have := bR i (by omega) j hj; omega⟩)) rfl rfl (Nat.le_of_ble_eq_true rfl) (by omega) ?_
    refine w_ifle i8_decompose_38 (fun h_ => absurd h_ (by omega)) (fun h38 => ?_)
    refine w_aload i8_decompose_41 rfl ?_
    refine w_cVP i8_decompose_42 f8_firstConformal v8_firstConformal (r_firstConformal (n := n) (E := gE M n) (r := trn n (R i)) (by omega) (by omega) h5 hk (fun e he => ⟨(hE e he).2.1, fun j hj => by rw [e4]; have := (hE e he).2.2 j hj; omega⟩) (fun j hj => ⟨h1 j hj, by have := bR i (by omega) j hj; omega⟩)) rfl rfl (by decide) rfl rfl (Nat.le_of_ble_eq_true rfl) (by omega) (fun v hv => ?_)
    have ev : v = tval (C i) := by
      rcases hv with ⟨c, c0, c1, c2⟩ | ⟨-, c1⟩
      · rw [c2, isF_uniq c0.1 b1.1 (isF_ext (fun j hj => trn_in hj) c1) b2]
      · exact absurd (cf_ext (fun _ _ => rfl) (fun j hj => (trn_in hj).symm) b2.1) (c1 _ b1)
    subst ev
    refine w_is3 i8_decompose_45 ?_
    refine w_iload i8_decompose_46 rfl ?_
    refine w_iload i8_decompose_47 rfl ?_
    refine w_icmpne i8_decompose_48 (fun h48 => ?_) (fun h48 => ?_)
    · refine w_const i8_decompose_53 ?_
      refine w_is4 i8_decompose_54 ?_
      refine lr_dc56 (F := F') (by omega) (fun j hj => by rw [e4]; exact u2 j hj) (fun j hj => by rw [h1 j hj]; have := bR i (by omega) j hj; omega) (fun y F1 p1 p2 => ?_) 4 0 F' (by omega) (fun j hj => absurd hj (by omega)) (fun _ _ => rfl) (fun _ _ => rfl)
      refine w_ii2 i8_decompose_113 (by omega) ?_
      refine w_goto i8_decompose_116 ?_
      rw [← ek]
      refine ih (i + 1) _ _ F1 (by omega) (by omega) (fun j hj => ?_) (fun a ha => by rw [p2 a ha, h2 a ha])
      rw [p1 j hj, h1 j hj]
      unfold trn
      by_cases c : 0 ≤ j ∧ j < n
      · rw [if_pos c, if_pos c, b3 j c]
        unfold cvec ng
        split <;> rfl
      · rw [if_neg c, if_neg c, u1 j (by omega)]
        split <;> rfl
    · refine w_iload i8_decompose_51 rfl ?_
      refine w_iret i8_decompose_52 (Or.inl rfl) ⟨Nat.le_refl _, Nat.le_refl _⟩ ?_
      have e : dcv x len C = tval (C i) := by unfold dcv; rw [if_neg (by omega), if_pos (by omega), show x.toNat = i by omega]
      rw [← e]
      exact K F' h2
theorem r_decompose {d : Nat} {I : IE} {F : FE} {S : Sx} {x : Int} {len : Nat} {R : Nat → Int → Int} {C : Nat → Int} (hd : 4 ≤ d) (h : DI S I F) (hD : DecF (gM S.1) (gC S.1) (gZ S.1) len R C) : MB m8_decompose d shM [rv 0, iv x] I F (fun v I' F' => v = dcv x len C ∧ I' = I ∧ ∀ a, a ≠ 14 → F' a = F a) := by
  have hV := h.1.1
  have hn := hV.2.1
  have hz : ∀ j, -30 ≤ gZ S.1 j ∧ gZ S.1 j ≤ 30 := hV.2.2.2.2.1
  have hz0 : ∀ j, (j < 0 ∨ gC S.1 ≤ j) → gZ S.1 j = 0 := hV.2.2.2.2.2.1
  have n4 := h.1.2.2.2.2.2.1
  have hb := h.2.1
  have bas := hb.2.2.2
  obtain ⟨-, b, hP, hBs⟩ := bas
  have hEe := DB.E hb
  refine MS_of (ls := [lr 0, li x, lu, lu, lu]) f8_decompose rfl rfl (Nat.le_of_ble_eq_true rfl) ?_
  refine w_const i8_decompose_0 ?_
  refine w_is2 i8_decompose_1 ?_
  refine lr_dc2 (F := F) (fun F1 p1 p2 => ?_) 4 0 F (by omega) (fun j hj => absurd hj (by omega)) (fun _ _ => rfl)
  refine w_const i8_decompose_28 ?_
  refine w_is2 i8_decompose_29 ?_
  refine lr_dc30 (F := F1) (M := gM S.1) (w := gZ S.1) (n := gC S.1) (R := R) (C := C) (len := len) (by omega) hn hb.1 hb.2.1 (fun e he => ⟨hBs.nz e he, (hEe e he).2.1, fun j hj => by rw [p2 4 (by decide)]; exact (hEe e he).2.2.2 j hj⟩) (fun j _ => hz j) hD (fun F' g => ⟨rfl, _, rfl, rfl, rfl, fun a ha => by rw [g a ha, p2 a ha]⟩) len 0 _ _ F1 (by omega) (by omega) (fun j hj => ?_) (fun _ _ => rfl)
  rw [p1 j hj, n4 j hj]
  unfold trn
  by_cases c : 0 ≤ j ∧ j < gC S.1
  · rw [if_pos c, hD.1 j c]
  · rw [if_neg c]; exact hz0 j (by omega)
theorem DI.dx {S : Sx} {I : IE} {F : FE} (h : DI S I F) (hex : Hex (gM S.1) (gC S.1)) (hK : KerF (gM S.1) (gC S.1) (gZ S.1)) : ∃ len R C, DecF (gM S.1) (gC S.1) (gZ S.1) len R C := by
  obtain ⟨-, b, hP, hBs⟩ := h.2.1.2.2.2
  exact DecF.ex h.1.1.2.1 (fun e he => ⟨(hBs.1 e he).1, hBs.nz e he⟩) hex (asum (gZ S.1) (gC S.1).toNat).toNat _ hK (by omega)
theorem r_decompositionLength {d : Nat} {I : IE} {F : FE} {S : Sx} (hd : 5 ≤ d) (h : DI S I F) (hex : Hex (gM S.1) (gC S.1)) : MB m8_decompositionLength d shM [rv 0] I F (fun v I' F' => DI S I' F' ∧ ((¬ KerF (gM S.1) (gC S.1) (gZ S.1) ∧ v = -1002) ∨ KerF (gM S.1) (gC S.1) (gZ S.1) ∧ ∃ (len : Nat) (R : Nat → Int → Int) (C : Nat → Int), DecF (gM S.1) (gC S.1) (gZ S.1) len R C ∧ v = (len : Int))) := by
  by_cases hK : KerF (gM S.1) (gC S.1) (gZ S.1)
  · obtain ⟨len, R, C, hD⟩ := h.dx hex hK
    refine MS_of (ls := [lr 0]) f8_decompositionLength rfl rfl (Nat.le_of_ble_eq_true rfl) ?_
    refine w_aload i8_decompositionLength_0 rfl ?_
    refine w_cVP i8_decompositionLength_1 f8_isKernelVector v8_isKernelVector (r_isKernelVector (by omega) h) rfl rfl (by decide) rfl rfl (Nat.le_of_ble_eq_true rfl) (by omega) (fun v hv => ?_)
    refine w_ifeq i8_decompositionLength_4 (fun h_ => absurd h_ (by rcases hv with ⟨g, -⟩ | ⟨-, g⟩; omega; exact absurd hK g)) (fun h4 => ?_)
    refine w_aload i8_decompositionLength_7 rfl ?_
    refine w_const i8_decompositionLength_8 ?_
    refine w_cVB i8_decompositionLength_9 f8_decompose v8_decompose (r_decompose (by omega) h hD) rfl rfl (by decide) rfl rfl (Nat.le_of_ble_eq_true rfl) (by omega) (fun w I1 F1 hq => ?_)
    refine w_goto i8_decompositionLength_12 ?_
    refine w_iret i8_decompositionLength_18 (Or.inl rfl) ⟨Nat.le_refl _, Nat.le_refl _⟩ ?_
    obtain ⟨q1, rfl, q2⟩ := hq
    exact ⟨rfl, _, rfl, h.O ⟨fun _ _ _ => rfl, fun a ha => q2 a (by omega)⟩, Or.inr ⟨hK, len, R, C, hD, q1⟩⟩
  · refine MS_of (ls := [lr 0]) f8_decompositionLength rfl rfl (Nat.le_of_ble_eq_true rfl) ?_
    refine w_aload i8_decompositionLength_0 rfl ?_
    refine w_cVP i8_decompositionLength_1 f8_isKernelVector v8_isKernelVector (r_isKernelVector (by omega) h) rfl rfl (by decide) rfl rfl (Nat.le_of_ble_eq_true rfl) (by omega) (fun v hv => ?_)
    refine w_ifeq i8_decompositionLength_4 (fun h4 => ?_) (fun h_ => absurd h_ (by rcases hv with ⟨-, g⟩ | ⟨g, -⟩; exact absurd g hK; omega))
    refine w_const i8_decompositionLength_15 ?_
    refine w_iret i8_decompositionLength_18 (Or.inl rfl) ⟨Nat.le_refl _, Nat.le_refl _⟩ ?_
    exact ⟨rfl, _, rfl, h, Or.inl ⟨hK, rfl⟩⟩
theorem r_decompositionStep {d : Nat} {I : IE} {F : FE} {S : Sx} {x : Int} (hd : 5 ≤ d) (h : DI S I F) (hex : Hex (gM S.1) (gC S.1)) : MB m8_decompositionStep d shM [rv 0, iv x] I F (fun v I' F' => DI S I' F' ∧ ((x < 0 ∧ v = -1001) ∨ (0 ≤ x ∧ ¬ KerF (gM S.1) (gC S.1) (gZ S.1) ∧ v = -1002) ∨ 0 ≤ x ∧ KerF (gM S.1) (gC S.1) (gZ S.1) ∧ ∃ (len : Nat) (R : Nat → Int → Int) (C : Nat → Int), DecF (gM S.1) (gC S.1) (gZ S.1) len R C ∧ v = if x < len then tval (C x.toNat) else -1009)) := by
  by_cases hx : x < 0
  · refine MS_of (ls := [lr 0, li x, lu]) f8_decompositionStep rfl rfl (Nat.le_of_ble_eq_true rfl) ?_
    refine w_iload i8_decompositionStep_0 rfl ?_
    refine w_ifge i8_decompositionStep_1 (fun h_ => absurd h_ (by omega)) (fun h1 => ?_)
    refine w_const i8_decompositionStep_4 ?_
    refine w_iret i8_decompositionStep_7 (Or.inl rfl) ⟨Nat.le_refl _, Nat.le_refl _⟩ ?_
    exact ⟨rfl, _, rfl, h, Or.inl ⟨hx, rfl⟩⟩
  · by_cases hK : KerF (gM S.1) (gC S.1) (gZ S.1)
    · obtain ⟨len, R, C, hD⟩ := h.dx hex hK
      refine MS_of (ls := [lr 0, li x, lu]) f8_decompositionStep rfl rfl (Nat.le_of_ble_eq_true rfl) ?_
      refine w_iload i8_decompositionStep_0 rfl ?_
      refine w_ifge i8_decompositionStep_1 (fun h1 => ?_) (fun h_ => absurd h_ (by omega))
      refine w_aload i8_decompositionStep_8 rfl ?_
      refine w_cVP i8_decompositionStep_9 f8_isKernelVector v8_isKernelVector (r_isKernelVector (by omega) h) rfl rfl (by decide) rfl rfl (Nat.le_of_ble_eq_true rfl) (by omega) (fun v hv => ?_)
      refine w_ifne i8_decompositionStep_12 (fun h12 => ?_) (fun h_ => absurd h_ (by rcases hv with ⟨g, -⟩ | ⟨-, g⟩; omega; exact absurd hK g))
      refine w_aload i8_decompositionStep_19 rfl ?_
      refine w_iload i8_decompositionStep_20 rfl ?_
      refine w_cVB i8_decompositionStep_21 f8_decompose v8_decompose (r_decompose (by omega) h hD) rfl rfl (by decide) rfl rfl (Nat.le_of_ble_eq_true rfl) (by omega) (fun w I1 F1 hq => ?_)
      obtain ⟨q1, rfl, q2⟩ := hq
      have dO : DI S I1 F1 := h.O ⟨fun _ _ _ => rfl, fun a ha => q2 a (by omega)⟩
      have ew : w = if x < len then tval (C x.toNat) else 0 := by rw [q1]; unfold dcv; rw [if_neg hx]
      refine w_is2 i8_decompositionStep_24 ?_
      refine w_iload i8_decompositionStep_25 rfl ?_
      refine w_ifne i8_decompositionStep_26 (fun h26 => ?_) (fun h26 => ?_)
      · refine w_iload i8_decompositionStep_35 rfl ?_
        refine w_iret i8_decompositionStep_36 (Or.inl rfl) ⟨Nat.le_refl _, Nat.le_refl _⟩ ?_
        first
        | (have w0 : w = 0 := by assumption
           refine ⟨rfl, -1009, rfl, dO, Or.inr (Or.inr ⟨by omega, hK, len, R, C, hD, ?_⟩)⟩
           by_cases c : x < len
           · rw [if_pos c] at ew
             have := tval_0 (c := C x.toNat) (hD.2.1 x.toNat (by omega)).1.1
             omega
           · rw [if_neg c])
        | (refine ⟨rfl, w, rfl, dO, Or.inr (Or.inr ⟨by omega, hK, len, R, C, hD, ?_⟩)⟩
           by_cases c : x < len
           · rw [if_pos c] at ew ⊢
             exact ew
           · rw [if_neg c] at ew
             omega)
      · refine w_const i8_decompositionStep_29 ?_
        refine w_goto i8_decompositionStep_32 ?_
        refine w_iret i8_decompositionStep_36 (Or.inl rfl) ⟨Nat.le_refl _, Nat.le_refl _⟩ ?_
        first
        | (have w0 : w = 0 := by assumption
           refine ⟨rfl, -1009, rfl, dO, Or.inr (Or.inr ⟨by omega, hK, len, R, C, hD, ?_⟩)⟩
           by_cases c : x < len
           · rw [if_pos c] at ew
             have := tval_0 (c := C x.toNat) (hD.2.1 x.toNat (by omega)).1.1
             omega
           · rw [if_neg c])
        | (refine ⟨rfl, w, rfl, dO, Or.inr (Or.inr ⟨by omega, hK, len, R, C, hD, ?_⟩)⟩
           by_cases c : x < len
           · rw [if_pos c] at ew ⊢
             exact ew
           · rw [if_neg c] at ew
             omega)
    · refine MS_of (ls := [lr 0, li x, lu]) f8_decompositionStep rfl rfl (Nat.le_of_ble_eq_true rfl) ?_
      refine w_iload i8_decompositionStep_0 rfl ?_
      refine w_ifge i8_decompositionStep_1 (fun h1 => ?_) (fun h_ => absurd h_ (by omega))
      refine w_aload i8_decompositionStep_8 rfl ?_
      refine w_cVP i8_decompositionStep_9 f8_isKernelVector v8_isKernelVector (r_isKernelVector (by omega) h) rfl rfl (by decide) rfl rfl (Nat.le_of_ble_eq_true rfl) (by omega) (fun v hv => ?_)
      refine w_ifne i8_decompositionStep_12 (fun h_ => absurd h_ (by rcases hv with ⟨-, g⟩ | ⟨g, -⟩; exact absurd g hK; omega)) (fun h12 => ?_)
      refine w_const i8_decompositionStep_15 ?_
      refine w_iret i8_decompositionStep_18 (Or.inl rfl) ⟨Nat.le_refl _, Nat.le_refl _⟩ ?_
      exact ⟨rfl, _, rfl, h, Or.inr (Or.inl ⟨by omega, hK, rfl⟩)⟩
