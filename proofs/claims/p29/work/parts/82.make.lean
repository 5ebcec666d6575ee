theorem band_b {x : Int} {m : Nat} (hm : m < 2147483648) : 0 ≤ bandI x m ∧ bandI x m ≤ m := by
  have e : (Int32.ofInt x &&& Int32.ofInt (m : Int)).toBitVec.toNat ≤ m := by
    show ((Int32.ofInt x).toBitVec &&& (Int32.ofInt (m : Int)).toBitVec).toNat ≤ _
    rw [BitVec.toNat_and, bv_nat hm]
    exact Nat.and_le_right
  unfold bandI
  rw [int_of_bv (by omega)]
  omega
theorem sL_low {d : Nat} {sh : Shp} {I : IE} {F : FE} {v n : Int} (hn : 0 < n) : MP mL_low d sh [iv v, iv n] I F (fun r => 0 ≤ r ∧ r < n) := by
  have hb : 0 ≤ bandI v 2147483647 ∧ bandI v 2147483647 ≤ 2147483647 := band_b (x := v) (m := 2147483647) (by decide)
  have e : (bandI v 2147483647).tmod n = bandI v 2147483647 % n := Int.tmod_eq_emod_of_nonneg hb.1
  have e0 := Int.emod_nonneg (bandI v 2147483647) (show n ≠ 0 by omega)
  have e1 := Int.emod_lt_of_pos (bandI v 2147483647) hn
  have e2 : bandI v 2147483647 % n ≤ bandI v 2147483647 := by
    by_cases h : bandI v 2147483647 < n
    · rw [Int.emod_eq_of_lt hb.1 h]; exact Int.le_refl _
    · omega
  refine MS_of (ls := [li v, li n]) fL_low rfl rfl (Nat.le_of_ble_eq_true rfl) ?_
  refine w_iload iL_low_0 rfl ?_
  refine w_ldc1 iL_low_1 ?_
  refine w_iand iL_low_3 ?_
  refine w_iload iL_low_4 rfl ?_
  refine w_irem iL_low_5 (by omega) (by rw [e]; constructor <;> omega) ?_
  refine w_iret iL_low_6 (Or.inl rfl) ⟨Nat.le_refl _, Nat.le_refl _⟩ ?_
  exact ⟨rfl, _, rfl, by rw [e]; exact ⟨e0, e1⟩, rfl, rfl⟩
/-- a row of the matrix times four entries -/
def pdt (F : FE) (r y0 y1 y2 y3 : Int) : Int := F 62 (2 + 4 * r) * y0 + F 62 (3 + 4 * r) * y1 + F 62 (4 + 4 * r) * y2 + F 62 (5 + 4 * r) * y3
def A3 (F : FE) : Prop := ∀ j, 2 ≤ j ∧ j < 10 → 0 ≤ F 62 j ∧ F 62 j ≤ 3
theorem sL_product {d : Nat} {I : IE} {F : FE} {r y0 y1 y2 y3 : Int} (hr : 0 ≤ r ∧ r ≤ 1) (hM : A3 F) (hy0 : -1000 ≤ y0 ∧ y0 ≤ 1000) (hy1 : -1000 ≤ y1 ∧ y1 ≤ 1000) (hy2 : -1000 ≤ y2 ∧ y2 ≤ 1000) (hy3 : -1000 ≤ y3 ∧ y3 ≤ 1000) : MR mL_product d shL [rv 62, iv r, iv y0, iv y1, iv y2, iv y3] I F (pdt F r y0 y1 y2 y3) := by
  have m0 := mulb (hM (2 + 4 * r) (by omega)) hy0
  have m1 := mulb (hM (3 + 4 * r) (by omega)) hy1
  have m2 := mulb (hM (4 + 4 * r) (by omega)) hy2
  have m3 := mulb (hM (5 + 4 * r) (by omega)) hy3
  refine MS_of (ls := [lr 62, li r, li y0, li y1, li y2, li y3]) fL_product rfl rfl (Nat.le_of_ble_eq_true rfl) ?_
  refine w_aload iL_product_0 rfl ?_
  refine w_const iL_product_1 ?_
  refine w_const iL_product_2 ?_
  refine w_iload iL_product_3 rfl ?_
  refine w_imul iL_product_4 (by omega) ?_
  refine w_iadd iL_product_5 (by omega) ?_
  refine w_iald iL_product_6 sL62 (by omega) ?_
  refine w_iload iL_product_7 rfl ?_
  refine w_imul iL_product_8 (by omega) ?_
  refine w_aload iL_product_9 rfl ?_
  refine w_const iL_product_10 ?_
  refine w_const iL_product_11 ?_
  refine w_iload iL_product_12 rfl ?_
  refine w_imul iL_product_13 (by omega) ?_
  refine w_iadd iL_product_14 (by omega) ?_
  refine w_iald iL_product_15 sL62 (by omega) ?_
  refine w_iload iL_product_16 rfl ?_
  refine w_imul iL_product_17 (by omega) ?_
  refine w_iadd iL_product_18 (by omega) ?_
  refine w_aload iL_product_19 rfl ?_
  refine w_const iL_product_20 ?_
  refine w_const iL_product_21 ?_
  refine w_iload iL_product_22 rfl ?_
  refine w_imul iL_product_23 (by omega) ?_
  refine w_iadd iL_product_24 (by omega) ?_
  refine w_iald iL_product_25 sL62 (by omega) ?_
  refine w_iload iL_product_26 rfl ?_
  refine w_imul iL_product_28 (by omega) ?_
  refine w_iadd iL_product_29 (by omega) ?_
  refine w_aload iL_product_30 rfl ?_
  refine w_const iL_product_31 ?_
  refine w_const iL_product_32 ?_
  refine w_iload iL_product_33 rfl ?_
  refine w_imul iL_product_34 (by omega) ?_
  refine w_iadd iL_product_35 (by omega) ?_
  refine w_iald iL_product_36 sL62 (by omega) ?_
  refine w_iload iL_product_37 rfl ?_
  refine w_imul iL_product_39 (by omega) ?_
  refine w_iadd iL_product_40 (by omega) ?_
  refine w_iret iL_product_41 (Or.inl rfl) ⟨Nat.le_refl _, Nat.le_refl _⟩ ?_
  exact ⟨rfl, rfl, rfl, rfl⟩
def PosF (F : FE) (n : Int) : Prop := ∀ j, 0 ≤ j ∧ j < n → 0 < F 62 (2 + j) + F 62 (6 + j)
theorem lL_positive {d n0 : Nat} {Q : PQ} {I : IE} {F : FE} (hn : 2 ≤ F 62 1 ∧ F 62 1 ≤ 4) (hM : A3 F)
    (K : ∀ b x, tf (PosF F (F 62 1)) b → WS mL_positive d 0 0 n0 Q 0 0 42 [lr 62, li b, x] [] shL I F) :
    ∀ (m k : Nat) (b : Int), (k + m : Int) = F 62 1 → tf (PosF F k) b → WS mL_positive d 0 0 n0 Q 0 0 4 [lr 62, li b, li k] [] shL I F := by
  intro m
  induction m with
  | zero =>
    intro k b hk hb
    have ek : F 62 1 = (k : Int) := by omega
    refine w_iload iL_positive_4 rfl ?_
    refine w_aload iL_positive_5 rfl ?_
    refine w_const iL_positive_6 ?_
    refine w_iald iL_positive_7 sL62 (by omega) ?_
    refine w_icmpge iL_positive_8 (fun h8 => ?_) (fun h_ => absurd h_ (by omega))
    exact K b _ (by rw [ek]; exact hb)
  | succ m ih =>
    intro k b hk hb
    have a1 := hM (2 + k) (by omega)
    have a2 := hM (6 + k) (by omega)
    have nx : ∀ c : Int, tf (PosF F (k + 1)) c → WS mL_positive d 0 0 n0 Q 0 0 4 [lr 62, li c, li (k + 1 : Int)] [] shL I F := fun c hc => ih (k + 1) c (by omega) hc
    have ext : PosF F k → 0 < F 62 (2 + k) + F 62 (6 + k) → PosF F (k + 1) := fun h1 h2 j hj => by
      by_cases e : j = k
      · rw [e]; exact h2
      · exact h1 j (by omega)
    have cut1 : PosF F (k + 1) → PosF F k := fun h j hj => h j (by omega)
    refine w_iload iL_positive_4 rfl ?_
    refine w_aload iL_positive_5 rfl ?_
    refine w_const iL_positive_6 ?_
    refine w_iald iL_positive_7 sL62 (by omega) ?_
    refine w_icmpge iL_positive_8 (fun h_ => absurd h_ (by omega)) (fun h8 => ?_)
    refine w_iload iL_positive_11 rfl ?_
    refine w_ifeq iL_positive_12 (fun h12 => ?_) (fun h12 => ?_)
    · refine w_const iL_positive_34 ?_
      refine w_is1 iL_positive_35 ?_
      refine w_ii2 iL_positive_36 (by omega) ?_
      refine w_goto iL_positive_39 ?_
      first
      | (refine nx 0 (Or.inr ⟨rfl, fun h => ?_⟩)
         rcases hb with ⟨g, -⟩ | ⟨-, g⟩
         · omega
         · exact g (cut1 h))
      | (refine nx 0 (Or.inr ⟨rfl, fun h => ?_⟩)
         have := h k (by omega)
         omega)
      | (refine nx 1 (Or.inl ⟨rfl, ?_⟩)
         rcases hb with ⟨-, g⟩ | ⟨g, -⟩
         · exact ext g (by omega)
         · omega)
      | show 2 = 3
    · refine w_aload iL_positive_15 rfl ?_
      refine w_const iL_positive_16 ?_
      refine w_iload iL_positive_17 rfl ?_
      refine w_iadd iL_positive_18 (by omega) ?_
      refine w_iald iL_positive_19 sL62 (by omega) ?_
      refine w_aload iL_positive_20 rfl ?_
      refine w_const iL_positive_21 ?_
      refine w_iload iL_positive_23 rfl ?_
      refine w_iadd iL_positive_24 (by omega) ?_
      refine w_iald iL_positive_25 sL62 (by omega) ?_
      refine w_iadd iL_positive_26 (by omega) ?_
      refine w_ifle iL_positive_27 (fun h27 => ?_) (fun h27 => ?_)
      · refine w_const iL_positive_34 ?_
        refine w_is1 iL_positive_35 ?_
        refine w_ii2 iL_positive_36 (by omega) ?_
        refine w_goto iL_positive_39 ?_
        first
        | (refine nx 0 (Or.inr ⟨rfl, fun h => ?_⟩)
           rcases hb with ⟨g, -⟩ | ⟨-, g⟩
           · omega
           · exact g (cut1 h))
        | (refine nx 0 (Or.inr ⟨rfl, fun h => ?_⟩)
           have := h k (by omega)
           omega)
        | (refine nx 1 (Or.inl ⟨rfl, ?_⟩)
           rcases hb with ⟨-, g⟩ | ⟨g, -⟩
           · exact ext g (by omega)
           · omega)
        | show 2 = 3
      · refine w_const iL_positive_30 ?_
        refine w_goto iL_positive_31 ?_
        refine w_is1 iL_positive_35 ?_
        refine w_ii2 iL_positive_36 (by omega) ?_
        refine w_goto iL_positive_39 ?_
        first
        | (refine nx 0 (Or.inr ⟨rfl, fun h => ?_⟩)
           rcases hb with ⟨g, -⟩ | ⟨-, g⟩
           · omega
           · exact g (cut1 h))
        | (refine nx 0 (Or.inr ⟨rfl, fun h => ?_⟩)
           have := h k (by omega)
           omega)
        | (refine nx 1 (Or.inl ⟨rfl, ?_⟩)
           rcases hb with ⟨-, g⟩ | ⟨g, -⟩
           · exact ext g (by omega)
           · omega)
        | show 2 = 3
theorem sL_positive {d : Nat} {I : IE} {F : FE} (hn : 2 ≤ F 62 1 ∧ F 62 1 ≤ 4) (hM : A3 F) : MP mL_positive d shL [rv 62] I F (tf (PosF F (F 62 1))) := by
  refine MS_of (ls := [lr 62, lu, lu]) fL_positive rfl rfl (Nat.le_of_ble_eq_true rfl) ?_
  refine w_const iL_positive_0 ?_
  refine w_is1 iL_positive_1 ?_
  refine w_const iL_positive_2 ?_
  refine w_is2 iL_positive_3 ?_
  refine lL_positive hn hM (fun b x hb => ?_) (F 62 1).toNat 0 1 (by omega) (Or.inl ⟨rfl, fun j hj => absurd hj (by omega)⟩)
  refine w_iload iL_positive_42 rfl ?_
  refine w_iret iL_positive_43 (Or.inr ⟨rfl, (by rcases hb with h | h; exact Or.inr h.1; exact Or.inl h.1)⟩) ⟨Nat.le_refl _, Nat.le_refl _⟩ ?_
  exact ⟨rfl, _, rfl, hb, rfl, rfl⟩
theorem CI.up {S : Sx} {I : IE} {F : FE} {p : Nat} {i x : Int} (h : CI S I F) (hp : 62 ≤ p) : CI S I (upF F p i x) := h.hi (fun _ _ _ => rfl) (fun a ha => by
  funext j
  simp only [upF]
  rw [if_neg (by omega)])
/-- the rows of the law hold the matrix; all elements are active -/
def MA (S : Sx) (F : FE) : Prop := F 62 0 = gR S.1 ∧ F 62 1 = gC S.1 ∧ ∀ j, 0 ≤ j ∧ j < 8 → F 62 (2 + j) = gM S.1 j
def AO (S : Sx) : Prop := ∀ k : Nat, gA S.1 k = if (k : Int) < gk (gM S.1) (gC S.1) then 1 else 0
/-- the same matrix, the same switches -/
def EqM (S S' : Sx) : Prop := gR S'.1 = gR S.1 ∧ gC S'.1 = gC S.1 ∧ gM S'.1 = gM S.1 ∧ gA S'.1 = gA S.1
theorem MA.a3 {S : Sx} {F : FE} (h : MA S F) (hS : SF S) : A3 F := fun j hj => by
  have := h.2.2 (j - 2) (by omega)
  rw [show 2 + (j - 2) = j by omega] at this
  rw [this]
  exact hS.1.2.2.1 _
theorem MA.pos {S : Sx} {F : FE} (h : MA S F) (hS : SF S) : PosF F (F 62 1) ↔ Pos (gM S.1) (gC S.1) := by
  have hn := hS.1.2.1
  rw [h.2.1]
  constructor
  · intro g j hj hz
    have := g j hj
    rw [h.2.2 j (by omega), show (6 : Int) + j = 2 + (4 + j) by omega, h.2.2 (4 + j) (by omega)] at this
    omega
  · intro g j hj
    have := g j hj
    rw [h.2.2 j (by omega), show (6 : Int) + j = 2 + (4 + j) by omega, h.2.2 (4 + j) (by omega)]
    have := hS.1.2.2.1 j
    have := hS.1.2.2.1 (4 + j)
    omega
theorem lL_point {d n0 : Nat} {Q : PQ} {S0 : Sx} {G : FE} (hd : 6 ≤ d) (hn2 : 2 ≤ gC S0.1 ∧ gC S0.1 ≤ 4) (hn : G 62 1 = gC S0.1) (hp : ∀ j, 0 ≤ j ∧ j < gC S0.1 → 0 ≤ G 63 j ∧ G 63 j ≤ 5)
    (K : ∀ x y S I F, CI S I F → EqM S0 S → (∀ j, 0 ≤ j ∧ j < gC S0.1 → gY S.1 j = G 63 j) → (∀ a, 62 ≤ a → F a = G a) → WS mL_point d 0 0 n0 Q 0 0 38 [lr 0, lr 62, lr 63, x, y] [] shL I F) :
    ∀ (m k : Nat) (y : Option AV) (S : Sx) (I : IE) (F : FE), (k + m : Int) = gC S0.1 → CI S I F → EqM S0 S → (∀ j, 0 ≤ j ∧ j < (k : Int) → gY S.1 j = G 63 j) → (∀ a, 62 ≤ a → F a = G a) → WS mL_point d 0 0 n0 Q 0 0 2 [lr 0, lr 62, lr 63, li k, y] [] shL I F := by
  intro m
  induction m with
  | zero =>
    intro k y S I F hk hC hE hY hF
    have e1 : F 62 = G 62 := hF 62 (by decide)
    refine w_iload iL_point_2 rfl ?_
    refine w_aload iL_point_3 rfl ?_
    refine w_const iL_point_4 ?_
    refine w_iald iL_point_5 sL62 (by omega) ?_
    rw [e1, hn]
    refine w_icmpge iL_point_6 (fun h6 => ?_) (fun h_ => absurd h_ (by omega))
    exact K _ _ S I F hC hE (fun j hj => hY j (by omega)) hF
  | succ m ih =>
    intro k y S I F hk hC hE hY hF
    have e1 : F 62 = G 62 := hF 62 (by decide)
    have e2 : F 63 = G 63 := hF 63 (by decide)
    have hpk := hp k (by omega)
    have hV := hC.sf.1
    refine w_iload iL_point_2 rfl ?_
    refine w_aload iL_point_3 rfl ?_
    refine w_const iL_point_4 ?_
    refine w_iald iL_point_5 sL62 (by omega) ?_
    rw [e1, hn]
    refine w_icmpge iL_point_6 (fun h_ => absurd h_ (by omega)) (fun h6 => ?_)
    refine w_aload iL_point_9 rfl ?_
    refine w_iload iL_point_10 rfl ?_
    refine w_aload iL_point_11 rfl ?_
    refine w_iload iL_point_12 rfl ?_
    refine w_iald iL_point_13 sL63 (by omega) ?_
    rw [e2]
    refine w_o iL_point_14 f7_setPoint v7_setPoint (o_setPoint (by rw [hE.2.1]; omega) hpk) hC rfl rfl rfl rfl (Nat.le_of_ble_eq_true rfl) (by omega) ⟨Nat.le_refl _, Nat.le_refl _⟩ (fun v S1 I1 F1 hq hC1 hf => ?_)
    obtain ⟨rfl, rfl⟩ := hq
    have hv := hV.2.2.2.2.2.2.1 k
    refine w_is4 iL_point_17 ?_
    refine w_iload iL_point_19 rfl ?_
    refine w_iflt iL_point_21 (fun h_ => absurd h_ (by omega)) (fun h21 => ?_)
    refine w_iload iL_point_24 rfl ?_
    refine w_const iL_point_26 ?_
    refine w_icmple iL_point_27 (fun h27 => ?_) (fun h_ => absurd h_ (by omega))
    refine w_ii3 iL_point_32 (by omega) ?_
    refine w_goto iL_point_35 ?_
    refine ih (k + 1) _ _ _ _ (by omega) hC1 ⟨hE.1, hE.2.1, hE.2.2.1, hE.2.2.2⟩ (fun j hj => ?_) (fun a ha => (hf a ha).trans (hF a ha))
    show (if j = (k : Int) then G 63 k else gY S.1 j) = G 63 j
    by_cases e : j = k
    · rw [if_pos e, e]
    · rw [if_neg e]; exact hY j (by omega)
theorem sL_point {d : Nat} {S : Sx} {I : IE} {F : FE} (hd : 6 ≤ d) (hC : CI S I F) (hn : F 62 1 = gC S.1) (hp : ∀ j, 0 ≤ j ∧ j < gC S.1 → 0 ≤ F 63 j ∧ F 63 j ≤ 5) : MB mL_point d shL [rv 0, rv 62, rv 63] I F (fun v I' F' => v = 1 ∧ ∃ S', CI S' I' F' ∧ EqM S S' ∧ (∀ j, 0 ≤ j ∧ j < gC S.1 → gY S'.1 j = F 63 j) ∧ ∀ a, 62 ≤ a → F' a = F a) := by
  have hn2 := hC.sf.1.2.1
  refine MS_of (ls := [lr 0, lr 62, lr 63, lu, lu]) fL_point rfl rfl (Nat.le_of_ble_eq_true rfl) ?_
  refine w_const iL_point_0 ?_
  refine w_is3 iL_point_1 ?_
  refine lL_point hd hn2 hn hp (fun x y S' I' F' h1 h2 h3 h4 => ?_) (gC S.1).toNat 0 _ S I F (by omega) hC ⟨rfl, rfl, rfl, rfl⟩ (fun j hj => absurd hj (by omega)) (fun _ _ => rfl)
  refine w_const iL_point_38 ?_
  refine w_iret iL_point_39 (Or.inr ⟨rfl, by omega⟩) ⟨Nat.le_refl _, Nat.le_refl _⟩ ?_
  exact ⟨rfl, _, rfl, rfl, S', h1, h2, h3, h4⟩
theorem lL_makes {d n0 : Nat} {Q : PQ} {x y r c : Int} {G : FE} (hd : 7 ≤ d) (hr : 1 ≤ r ∧ r ≤ 2) (hc : 2 ≤ c ∧ c ≤ 4)
    (K : ∀ x4 x5 x6 x7 x8 S I F, CI S I F → MA S F → AO S → (∀ a, 63 ≤ a → F a = G a) → WS mL_makes d 0 0 n0 Q 0 0 176 [lr 0, lr 62, li x, li y, x4, x5, x6, x7, x8] [] shL I F) :
    ∀ (m k : Nat) (x5 x6 x7 x8 : Option AV) (S : Sx) (I : IE) (F : FE), k + m = 8 → CI S I F → gR S.1 = r → gC S.1 = c → F 62 0 = r → F 62 1 = c → AO S → (∀ j, 0 ≤ j ∧ j < (k : Int) → F 62 (2 + j) = gM S.1 j) → (∀ j, (k : Int) ≤ j ∧ j < 8 → j % 4 < c ∧ j / 4 < r → gM S.1 j = 1) → (∀ a, 63 ≤ a → F a = G a) →
      WS mL_makes d 0 0 n0 Q 0 0 39 [lr 0, lr 62, li x, li y, li k, x5, x6, x7, x8] [] shL I F := by
  intro m
  induction m with
  | zero =>
    intro k x5 x6 x7 x8 S I F hk hC gr gc f0 f1 hA h1 h2 hF
    obtain rfl : k = 8 := by omega
    refine w_iload iL_makes_39 rfl ?_
    refine w_const iL_makes_41 ?_
    refine w_icmpge iL_makes_43 (fun h43 => ?_) (fun h_ => absurd h_ (by omega))
    exact K _ _ _ _ _ S I F hC ⟨by rw [f0, gr], by rw [f1, gc], fun j hj => h1 j (by omega)⟩ hA hF
  | succ m ih =>
    intro k x5 x6 x7 x8 S I F hk hC gr gc f0 f1 hA h1 h2 hF
    have ed : (k : Int).tdiv 4 = k / 4 := Int.tdiv_eq_ediv_of_nonneg (by omega)
    have em : (k : Int).tmod 4 = k % 4 := Int.tmod_eq_emod_of_nonneg (by omega)
    have hV := hC.sf.1
    have hb3 : 0 ≤ bandI (shrI y (2 * k)) 3 ∧ bandI (shrI y (2 * k)) 3 ≤ 3 := band_b (m := 3) (by decide)
    have hup : ∀ v : Int, ∀ a, a ≠ 62 → upF F 62 (2 + k) v a = F a := fun v a ha => by funext j; simp only [upF]; rw [if_neg (fun z => ha z.1)]
    have up1 : ∀ v j : Int, j ≠ 2 + k → upF F 62 (2 + k) v 62 j = F 62 j := fun v j hj => by simp only [upF]; rw [if_neg (fun z => hj z.2)]
    have up2 : ∀ v : Int, upF F 62 (2 + k) v 62 (2 + k) = v := fun v => by simp [upF]
    by_cases hin : (k : Int) / 4 < r ∧ (k : Int) % 4 < c
    · have g1 := h2 k (by omega) ⟨hin.2, hin.1⟩
      have e4 : (k : Int) / 4 * 4 + (k : Int) % 4 = k := by omega
      -- behind the choice of the entry
      have c124 : ∀ (v : Int) (z : Option AV), 0 ≤ v ∧ v ≤ 3 → WS mL_makes d 0 0 n0 Q 0 0 124 [lr 0, lr 62, li x, li y, li k, li (k / 4), li (k % 4), li 1, z] [.inl v] shL I F := fun v z hv => by
        have nx : ∀ (z : Option AV) (S1 : Sx) (I1 : IE) (F1 : FE), CI S1 I1 F1 → gR S1.1 = r → gC S1.1 = c → AO S1 → (∀ a, 62 ≤ a → F1 a = upF F 62 (2 + k) v a) → (∀ j, j ≠ (k : Int) → gM S1.1 j = gM S.1 j) → gM S1.1 k = v → WS mL_makes d 0 0 n0 Q 0 0 39 [lr 0, lr 62, li x, li y, li (k + 1 : Int), li (k / 4), li (k % 4), li 1, z] [] shL I1 F1 := fun z S1 I1 F1 a1 a2 a3 a4 a5 a6 a7 => by
          refine ih (k + 1) _ _ _ _ S1 I1 F1 (by omega) a1 a2 a3 (by rw [a5 62 (by decide), up1 _ _ (by omega)]; exact f0) (by rw [a5 62 (by decide), up1 _ _ (by omega)]; exact f1) a4 (fun j hj => ?_) (fun j hj hj2 => by rw [a6 j (by omega)]; exact h2 j (by omega) hj2) (fun a ha => by rw [a5 a (by omega), hup v a (by omega)]; exact hF a ha)
          rw [a5 62 (by decide)]
          by_cases e : j = k
          · rw [e, up2, a7]
          · rw [up1 _ _ (by omega), a6 j e]; exact h1 j (by omega)
        have hCu : CI S I (upF F 62 (2 + k) v) := hC.up (by decide)
        refine w_is8 iL_makes_124 ?_
        refine w_aload iL_makes_126 rfl ?_
        refine w_const iL_makes_127 ?_
        refine w_iload iL_makes_128 rfl ?_
        refine w_iadd iL_makes_130 (by omega) ?_
        refine w_iload iL_makes_131 rfl ?_
        refine w_ifeq iL_makes_133 (fun h_ => absurd h_ (by omega)) (fun h133 => ?_)
        refine w_iload iL_makes_136 rfl ?_
        refine w_goto iL_makes_138 ?_
        refine w_iast iL_makes_142 sL62 (by omega) ?_
        refine w_iload iL_makes_143 rfl ?_
        refine w_ifeq iL_makes_145 (fun h_ => absurd h_ (by omega)) (fun h145 => ?_)
        refine w_iload iL_makes_148 rfl ?_
        refine w_const iL_makes_150 ?_
        refine w_icmpeq iL_makes_151 (fun h151 => ?_) (fun h151 => ?_)
        · refine w_ii4 iL_makes_170 (by omega) ?_
          refine w_goto iL_makes_173 ?_
          first
          | (refine nx _ _ _ _ hC1 gr gc (fun _ => rfl) hf (fun j hj => ?_) ?_
             · show (if j = (k : Int) / 4 * 4 + (k : Int) % 4 then v else gM S.1 j) = gM S.1 j
               rw [if_neg (by omega)]
             · show (if (k : Int) = (k : Int) / 4 * 4 + (k : Int) % 4 then v else gM S.1 k) = v
               rw [if_pos e4.symm])
          | exact nx _ S I _ (hC.up (by decide)) gr gc hA (fun _ _ => rfl) (fun _ _ => rfl) (by omega)
          | show 2 = 3
        · refine w_aload iL_makes_154 rfl ?_
          refine w_iload iL_makes_155 rfl ?_
          refine w_iload iL_makes_157 rfl ?_
          refine w_iload iL_makes_159 rfl ?_
          refine w_o iL_makes_161 f7_setEntry v7_setEntry (o_setEntry (by rw [gr]; omega) (by rw [gc]; omega) hv (by rw [e4, g1]; omega)) hCu rfl rfl rfl rfl (Nat.le_of_ble_eq_true rfl) (by omega) ⟨Nat.le_refl _, Nat.le_refl _⟩ (fun v S1 I1 F1 hq hC1 hf => ?_)
          obtain ⟨rfl, rfl⟩ := hq
          refine w_const iL_makes_164 ?_
          refine w_icmpeq iL_makes_165 (fun h165 => ?_) (fun h_ => absurd h_ (by rw [e4]; exact fun z => z g1))
          refine w_ii4 iL_makes_170 (by omega) ?_
          refine w_goto iL_makes_173 ?_
          first
          | (refine nx _ _ _ _ hC1 gr gc (fun _ => rfl) hf (fun j hj => ?_) ?_
             · show (if j = (k : Int) / 4 * 4 + (k : Int) % 4 then v else gM S.1 j) = gM S.1 j
               rw [if_neg (by omega)]
             · show (if (k : Int) = (k : Int) / 4 * 4 + (k : Int) % 4 then v else gM S.1 k) = v
               rw [if_pos e4.symm])
          | exact nx _ S I _ (hC.up (by decide)) gr gc hA (fun _ _ => rfl) (fun _ _ => rfl) (by omega)
          | show 2 = 3
      refine w_iload iL_makes_39 rfl ?_
      refine w_const iL_makes_41 ?_
      refine w_icmpge iL_makes_43 (fun h_ => absurd h_ (by omega)) (fun h43 => ?_)
      refine w_iload iL_makes_46 rfl ?_
      refine w_const iL_makes_48 ?_
      refine w_idiv iL_makes_49 (by decide) (by rw [ed]; constructor <;> omega) ?_
      rw [ed]
      refine w_is5 iL_makes_50 ?_
      refine w_iload iL_makes_52 rfl ?_
      refine w_const iL_makes_54 ?_
      refine w_irem iL_makes_55 (by decide) (by rw [em]; constructor <;> omega) ?_
      rw [em]
      refine w_is6 iL_makes_56 ?_
      refine w_iload iL_makes_58 rfl ?_
      refine w_aload iL_makes_60 rfl ?_
      refine w_const iL_makes_61 ?_
      refine w_iald iL_makes_62 sL62 (by omega) ?_
      rw [f0]
      refine w_icmpge iL_makes_63 (fun h_ => absurd h_ (by omega)) (fun h63 => ?_)
      refine w_iload iL_makes_66 rfl ?_
      refine w_aload iL_makes_68 rfl ?_
      refine w_const iL_makes_69 ?_
      refine w_iald iL_makes_70 sL62 (by omega) ?_
      rw [f1]
      refine w_icmpge iL_makes_71 (fun h_ => absurd h_ (by omega)) (fun h71 => ?_)
      refine w_const iL_makes_74 ?_
      refine w_goto iL_makes_75 ?_
      refine w_is7 iL_makes_79 ?_
      refine w_iload iL_makes_81 rfl ?_
      refine w_const iL_makes_82 ?_
      refine w_iload iL_makes_83 rfl ?_
      refine w_imul iL_makes_85 (by omega) ?_
      refine w_ishr iL_makes_86 ?_
      refine w_const iL_makes_87 ?_
      refine w_iand iL_makes_88 ?_
      refine w_is8 iL_makes_89 ?_
      refine w_iload iL_makes_91 rfl ?_
      refine w_ifne iL_makes_93 (fun h93 => ?_) (fun h93 => ?_)
      · refine w_iload iL_makes_122 rfl ?_
        exact c124 _ _ (by omega)
      · refine w_iload iL_makes_96 rfl ?_
        refine w_ifne iL_makes_98 (fun h98 => ?_) (fun h98 => ?_)
        · refine w_aload iL_makes_111 rfl ?_
          refine w_const iL_makes_112 ?_
          refine w_iald iL_makes_113 sL62 (by omega) ?_
          refine w_const iL_makes_114 ?_
          refine w_icmpne iL_makes_115 (fun h115 => ?_) (fun h115 => ?_)
          · refine w_iload iL_makes_122 rfl ?_
            exact c124 _ _ (by omega)
          · refine w_const iL_makes_118 ?_
            refine w_goto iL_makes_119 ?_
            exact c124 _ _ (by omega)
        · refine w_iload iL_makes_101 rfl ?_
          refine w_const iL_makes_102 ?_
          refine w_ishr iL_makes_104 ?_
          refine w_const iL_makes_105 ?_
          refine w_iand iL_makes_107 ?_
          refine w_ifgt iL_makes_108 (fun h108 => ?_) (fun h108 => ?_)
          · refine w_const iL_makes_118 ?_
            refine w_goto iL_makes_119 ?_
            exact c124 _ _ (by omega)
          · refine w_aload iL_makes_111 rfl ?_
            refine w_const iL_makes_112 ?_
            refine w_iald iL_makes_113 sL62 (by omega) ?_
            refine w_const iL_makes_114 ?_
            refine w_icmpne iL_makes_115 (fun h115 => ?_) (fun h115 => ?_)
            · refine w_iload iL_makes_122 rfl ?_
              exact c124 _ _ (by omega)
            · refine w_const iL_makes_118 ?_
              refine w_goto iL_makes_119 ?_
              exact c124 _ _ (by omega)
    · have g0 : gM S.1 k = 0 := hV.2.2.2.1 k (by omega)
      have c124 : ∀ (v : Int) (z : Option AV), 0 ≤ v ∧ v ≤ 3 → WS mL_makes d 0 0 n0 Q 0 0 124 [lr 0, lr 62, li x, li y, li k, li (k / 4), li (k % 4), li 0, z] [.inl v] shL I F := fun v z hv => by
        refine w_is8 iL_makes_124 ?_
        refine w_aload iL_makes_126 rfl ?_
        refine w_const iL_makes_127 ?_
        refine w_iload iL_makes_128 rfl ?_
        refine w_iadd iL_makes_130 (by omega) ?_
        refine w_iload iL_makes_131 rfl ?_
        refine w_ifeq iL_makes_133 (fun h133 => ?_) (fun h_ => absurd h_ (by omega))
        refine w_const iL_makes_141 ?_
        refine w_iast iL_makes_142 sL62 (by omega) ?_
        refine w_iload iL_makes_143 rfl ?_
        refine w_ifeq iL_makes_145 (fun h145 => ?_) (fun h_ => absurd h_ (by omega))
        refine w_ii4 iL_makes_170 (by omega) ?_
        refine w_goto iL_makes_173 ?_
        refine ih (k + 1) _ _ _ _ S I _ (by omega) (hC.up (by decide)) gr gc (by rw [up1 _ _ (by omega)]; exact f0) (by rw [up1 _ _ (by omega)]; exact f1) hA (fun j hj => ?_) (fun j hj hj2 => h2 j (by omega) hj2) (fun a ha => by rw [hup _ a (by omega)]; exact hF a ha)
        by_cases e : j = k
        · rw [e, up2, g0]
        · rw [up1 _ _ (by omega)]; exact h1 j (by omega)
      refine w_iload iL_makes_39 rfl ?_
      refine w_const iL_makes_41 ?_
      refine w_icmpge iL_makes_43 (fun h_ => absurd h_ (by omega)) (fun h43 => ?_)
      refine w_iload iL_makes_46 rfl ?_
      refine w_const iL_makes_48 ?_
      refine w_idiv iL_makes_49 (by decide) (by rw [ed]; constructor <;> omega) ?_
      rw [ed]
      refine w_is5 iL_makes_50 ?_
      refine w_iload iL_makes_52 rfl ?_
      refine w_const iL_makes_54 ?_
      refine w_irem iL_makes_55 (by decide) (by rw [em]; constructor <;> omega) ?_
      rw [em]
      refine w_is6 iL_makes_56 ?_
      refine w_iload iL_makes_58 rfl ?_
      refine w_aload iL_makes_60 rfl ?_
      refine w_const iL_makes_61 ?_
      refine w_iald iL_makes_62 sL62 (by omega) ?_
      rw [f0]
      refine w_icmpge iL_makes_63 (fun h63 => ?_) (fun h63 => ?_)
      · refine w_const iL_makes_78 ?_
        refine w_is7 iL_makes_79 ?_
        refine w_iload iL_makes_81 rfl ?_
        refine w_const iL_makes_82 ?_
        refine w_iload iL_makes_83 rfl ?_
        refine w_imul iL_makes_85 (by omega) ?_
        refine w_ishr iL_makes_86 ?_
        refine w_const iL_makes_87 ?_
        refine w_iand iL_makes_88 ?_
        refine w_is8 iL_makes_89 ?_
        refine w_iload iL_makes_91 rfl ?_
        refine w_ifne iL_makes_93 (fun h93 => ?_) (fun h93 => ?_)
        · refine w_iload iL_makes_122 rfl ?_
          exact c124 _ _ (by omega)
        · refine w_iload iL_makes_96 rfl ?_
          refine w_ifne iL_makes_98 (fun h98 => ?_) (fun h98 => ?_)
          · refine w_aload iL_makes_111 rfl ?_
            refine w_const iL_makes_112 ?_
            refine w_iald iL_makes_113 sL62 (by omega) ?_
            refine w_const iL_makes_114 ?_
            refine w_icmpne iL_makes_115 (fun h115 => ?_) (fun h115 => ?_)
            · refine w_iload iL_makes_122 rfl ?_
              exact c124 _ _ (by omega)
            · refine w_const iL_makes_118 ?_
              refine w_goto iL_makes_119 ?_
              exact c124 _ _ (by omega)
          · refine w_iload iL_makes_101 rfl ?_
            refine w_const iL_makes_102 ?_
            refine w_ishr iL_makes_104 ?_
            refine w_const iL_makes_105 ?_
            refine w_iand iL_makes_107 ?_
            refine w_ifgt iL_makes_108 (fun h108 => ?_) (fun h108 => ?_)
            · refine w_const iL_makes_118 ?_
              refine w_goto iL_makes_119 ?_
              exact c124 _ _ (by omega)
            · refine w_aload iL_makes_111 rfl ?_
              refine w_const iL_makes_112 ?_
              refine w_iald iL_makes_113 sL62 (by omega) ?_
              refine w_const iL_makes_114 ?_
              refine w_icmpne iL_makes_115 (fun h115 => ?_) (fun h115 => ?_)
              · refine w_iload iL_makes_122 rfl ?_
                exact c124 _ _ (by omega)
              · refine w_const iL_makes_118 ?_
                refine w_goto iL_makes_119 ?_
                exact c124 _ _ (by omega)
      · refine w_iload iL_makes_66 rfl ?_
        refine w_aload iL_makes_68 rfl ?_
        refine w_const iL_makes_69 ?_
        refine w_iald iL_makes_70 sL62 (by omega) ?_
        rw [f1]
        refine w_icmpge iL_makes_71 (fun h71 => ?_) (fun h71 => ?_)
        · refine w_const iL_makes_78 ?_
          refine w_is7 iL_makes_79 ?_
          refine w_iload iL_makes_81 rfl ?_
          refine w_const iL_makes_82 ?_
          refine w_iload iL_makes_83 rfl ?_
          refine w_imul iL_makes_85 (by omega) ?_
          refine w_ishr iL_makes_86 ?_
          refine w_const iL_makes_87 ?_
          refine w_iand iL_makes_88 ?_
          refine w_is8 iL_makes_89 ?_
          refine w_iload iL_makes_91 rfl ?_
          refine w_ifne iL_makes_93 (fun h93 => ?_) (fun h93 => ?_)
          · refine w_iload iL_makes_122 rfl ?_
            exact c124 _ _ (by omega)
          · refine w_iload iL_makes_96 rfl ?_
            refine w_ifne iL_makes_98 (fun h98 => ?_) (fun h98 => ?_)
            · refine w_aload iL_makes_111 rfl ?_
              refine w_const iL_makes_112 ?_
              refine w_iald iL_makes_113 sL62 (by omega) ?_
              refine w_const iL_makes_114 ?_
              refine w_icmpne iL_makes_115 (fun h115 => ?_) (fun h115 => ?_)
              · refine w_iload iL_makes_122 rfl ?_
                exact c124 _ _ (by omega)
              · refine w_const iL_makes_118 ?_
                refine w_goto iL_makes_119 ?_
                exact c124 _ _ (by omega)
            · refine w_iload iL_makes_101 rfl ?_
              refine w_const iL_makes_102 ?_
              refine w_ishr iL_makes_104 ?_
              refine w_const iL_makes_105 ?_
              refine w_iand iL_makes_107 ?_
              refine w_ifgt iL_makes_108 (fun h108 => ?_) (fun h108 => ?_)
              · refine w_const iL_makes_118 ?_
                refine w_goto iL_makes_119 ?_
                exact c124 _ _ (by omega)
              · refine w_aload iL_makes_111 rfl ?_
                refine w_const iL_makes_112 ?_
                refine w_iald iL_makes_113 sL62 (by omega) ?_
                refine w_const iL_makes_114 ?_
                refine w_icmpne iL_makes_115 (fun h115 => ?_) (fun h115 => ?_)
                · refine w_iload iL_makes_122 rfl ?_
                  exact c124 _ _ (by omega)
                · refine w_const iL_makes_118 ?_
                  refine w_goto iL_makes_119 ?_
                  exact c124 _ _ (by omega)
        · exact absurd (by assumption) (by omega)
theorem sL_makes {d : Nat} {S : Sx} {I : IE} {F : FE} {x y : Int} (hd : 7 ≤ d) (hC : CI S I F) : MB mL_makes d shL [rv 0, rv 62, iv x, iv y] I F (fun v I' F' => v = 1 ∧ ∃ S', CI S' I' F' ∧ MA S' F' ∧ AO S' ∧ ∀ a, 63 ≤ a → F' a = F a) := by
  have hb : 0 ≤ bandI x 1 ∧ bandI x 1 ≤ 1 := band_b (m := 1) (by decide)
  have hV := hC.sf.1
  refine MS_of (ls := [lr 0, lr 62, li x, li y, lu, lu, lu, lu, lu]) fL_makes rfl rfl (Nat.le_of_ble_eq_true rfl) ?_
  refine w_aload iL_makes_0 rfl ?_
  refine w_const iL_makes_1 ?_
  refine w_const iL_makes_2 ?_
  refine w_iload iL_makes_3 rfl ?_
  refine w_const iL_makes_4 ?_
  refine w_iand iL_makes_5 ?_
  refine w_iadd iL_makes_6 (by omega) ?_
  refine w_iast iL_makes_7 sL62 (by omega) ?_
  refine w_aload iL_makes_8 rfl ?_
  refine w_const iL_makes_9 ?_
  refine w_const iL_makes_10 ?_
  refine w_iload iL_makes_11 rfl ?_
  refine w_const iL_makes_12 ?_
  refine w_ishr iL_makes_13 ?_
  refine w_const iL_makes_14 ?_
  refine w_cSP iL_makes_15 fL_low vL_low (sL_low (by decide)) rfl rfl (Nat.le_of_ble_eq_true rfl) (by omega) (fun w hw => ?_)
  refine w_iadd iL_makes_18 (by omega) ?_
  refine w_iast iL_makes_19 sL62 (by omega) ?_
  skip
  generalize hG : upF (upF F 62 0 (1 + bandI x 1)) 62 1 (2 + w) = G
  have q0 : G 62 0 = 1 + bandI x 1 := by rw [← hG]; simp [upF]
  have q1 : G 62 1 = 2 + w := by rw [← hG]; simp [upF]
  have q2 : ∀ a, 63 ≤ a → G a = F a := fun a ha => by rw [← hG]; funext j; simp only [upF]; rw [if_neg (by omega), if_neg (by omega)]
  have hCG : CI S I G := by rw [← hG]; exact (hC.up (by decide)).up (by decide)
  refine w_aload iL_makes_20 rfl ?_
  refine w_aload iL_makes_21 rfl ?_
  refine w_const iL_makes_22 ?_
  refine w_iald iL_makes_23 sL62 (by omega) ?_
  rw [q0]
  refine w_aload iL_makes_24 rfl ?_
  refine w_const iL_makes_25 ?_
  refine w_iald iL_makes_26 sL62 (by omega) ?_
  rw [q1]
  refine w_o iL_makes_27 f7_configure v7_configure (o_configure (by omega) (by omega)) hCG rfl rfl rfl rfl (Nat.le_of_ble_eq_true rfl) (by omega) ⟨Nat.le_refl _, Nat.le_refl _⟩ (fun v S1 I1 F1 hq hC1 hf => ?_)
  obtain ⟨rfl, rfl⟩ := hq
  have hn2 := hV.2.1
  refine w_const iL_makes_30 ?_
  refine w_icmpge iL_makes_31 (fun h31 => ?_) (fun h_ => absurd h_ (by omega))
  refine w_const iL_makes_36 ?_
  refine w_is4 iL_makes_37 ?_
  refine lL_makes (r := 1 + bandI x 1) (c := 2 + w) (G := F) hd (by omega) (by omega) (fun x4 x5 x6 x7 x8 S' I' F' a1 a2 a3 a4 => ?_) 8 0 _ _ _ _ _ I1 F1 rfl hC1 rfl rfl (by rw [hf 62 (by decide), q0]) (by rw [hf 62 (by decide), q1]) (fun _ => rfl) (fun j hj => absurd hj (by omega)) (fun j hj hj2 => ?_) (fun a ha => (hf a (by omega)).trans (q2 a ha))
  · refine w_const iL_makes_176 ?_
    refine w_iret iL_makes_177 (Or.inr ⟨rfl, by omega⟩) ⟨Nat.le_refl _, Nat.le_refl _⟩ ?_
    exact ⟨rfl, _, rfl, rfl, S', a1, a2, a3, a4⟩
  · show (if 0 ≤ j ∧ j < 8 ∧ j % 4 < 2 + w ∧ j / 4 < 1 + bandI x 1 then (1 : Int) else 0) = 1
    rw [if_pos (by omega)]
