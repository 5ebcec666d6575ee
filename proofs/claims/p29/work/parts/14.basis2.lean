theorem l2_iwb {d n0 : Nat} {Q : PQ} {I : IE} {F : FE} (hd : 1 ≤ d) (hn : 0 ≤ I 42 3 ∧ I 42 3 ≤ 4) (hv : ∀ j, 0 ≤ j ∧ j < 4 → -1000 ≤ F 45 j ∧ F 45 j ≤ 1000)
    (K1 : ∀ x, (∀ i, 0 ≤ i ∧ i < I 42 3 → -I 42 4 ≤ F 45 i ∧ F 45 i ≤ I 42 4) → WS m2_isWithinBound d 0 0 n0 Q 0 0 34 [lr 42, x] [] shX I F)
    (K0 : ∀ x, (¬ ∀ i, 0 ≤ i ∧ i < I 42 3 → -I 42 4 ≤ F 45 i ∧ F 45 i ≤ I 42 4) → WS m2_isWithinBound d 0 0 n0 Q 0 0 26 [lr 42, x] [] shX I F) :
    ∀ (m k : Nat), (k + m : Int) = I 42 3 → (∀ i, 0 ≤ i ∧ i < (k : Int) → -I 42 4 ≤ F 45 i ∧ F 45 i ≤ I 42 4) → WS m2_isWithinBound d 0 0 n0 Q 0 0 2 [lr 42, li k] [] shX I F := by
  intro m
  induction m with
  | zero =>
    intro k hk hP
    have ek : (k : Int) = I 42 3 := by omega
    rw [ek] at hP
    refine w_iload i2_isWithinBound_2 rfl ?_
    refine w_aload i2_isWithinBound_3 rfl ?_
    refine w_get i2_isWithinBound_4 rfl rfl ?_
    refine w_icmpge i2_isWithinBound_7 (fun h7 => ?_) (fun h_ => absurd h_ (by omega))
    exact K1 _ hP
  | succ m ih =>
    intro k hk hP
    have hb2 := hv k (by omega)
    refine w_iload i2_isWithinBound_2 rfl ?_
    refine w_aload i2_isWithinBound_3 rfl ?_
    refine w_get i2_isWithinBound_4 rfl rfl ?_
    refine w_icmpge i2_isWithinBound_7 (fun h_ => absurd h_ (by omega)) (fun h7 => ?_)
    refine w_aload i2_isWithinBound_10 rfl ?_
    refine w_getr i2_isWithinBound_11 rfl rfl ?_
    refine w_iload i2_isWithinBound_14 rfl ?_
    refine w_iald i2_isWithinBound_15 rfl (by omega) ?_
    refine w_mabs i2_isWithinBound_16 (by omega) (by omega) ⟨Nat.le_refl _, Nat.le_refl _⟩ (Nat.le_of_ble_eq_true rfl) ?_
    refine w_aload i2_isWithinBound_19 rfl ?_
    refine w_get i2_isWithinBound_20 rfl rfl ?_
    refine w_icmple i2_isWithinBound_23 (fun h23 => ?_) (fun h23 => ?_)
    · refine w_ii1 i2_isWithinBound_28 (by omega) ?_
      refine w_goto i2_isWithinBound_31 ?_
      refine ih (k + 1) (by omega) (fun i hi => ?_)
      by_cases hik : i = k
      · subst hik; (repeat' split at h23) <;> omega
      · exact hP i (by omega)
    · refine K0 _ (fun h => ?_)
      have := h k (by omega)
      (repeat' split at h23) <;> omega
theorem s2_isWithinBound {d : Nat} {I : IE} {F : FE} (hd : 1 ≤ d) (hn : 0 ≤ I 42 3 ∧ I 42 3 ≤ 4) (hv : ∀ j, 0 ≤ j ∧ j < 4 → -1000 ≤ F 45 j ∧ F 45 j ≤ 1000) :
    MP m2_isWithinBound d shX [rv 42] I F (tf (∀ i, 0 ≤ i ∧ i < I 42 3 → -I 42 4 ≤ F 45 i ∧ F 45 i ≤ I 42 4)) := by
  refine MS_of (ls := [lr 42, lu]) f2_isWithinBound rfl rfl (Nat.le_of_ble_eq_true rfl) ?_
  refine w_const i2_isWithinBound_0 ?_
  refine w_is1 i2_isWithinBound_1 ?_
  refine l2_iwb hd hn hv (fun x h => ?_) (fun x h => ?_) (I 42 3).toNat 0 (by omega) (fun i hi => absurd hi (by omega))
  · refine w_const i2_isWithinBound_34 ?_
    refine w_iret i2_isWithinBound_35 (Or.inr ⟨rfl, by omega⟩) ⟨Nat.le_refl _, Nat.le_refl _⟩ ?_
    exact ⟨rfl, _, rfl, Or.inl ⟨rfl, h⟩, rfl, rfl⟩
  · refine w_const i2_isWithinBound_26 ?_
    refine w_iret i2_isWithinBound_27 (Or.inr ⟨rfl, by omega⟩) ⟨Nat.le_refl _, Nat.le_refl _⟩ ?_
    exact ⟨rfl, _, rfl, Or.inr ⟨rfl, h⟩, rfl, rfl⟩
/-- the first entry other than 0 is positive -/
def lead (f : Int → Int) (n : Int) : Prop := ∃ k, 0 ≤ k ∧ k < n ∧ (∀ i, 0 ≤ i ∧ i < k → f i = 0) ∧ 0 < f k
theorem l2_leads {d n0 : Nat} {Q : PQ} {I : IE} {F : FE} (hn : 0 ≤ I 42 3 ∧ I 42 3 ≤ 4)
    (K : ∀ x v, tf (lead (F 45) (I 42 3)) v → WS m2_leads d 0 0 n0 Q 0 0 33 [lr 42, x] [.inl v] shX I F)
    (K4 : ∀ x, ¬ lead (F 45) (I 42 3) → WS m2_leads d 0 0 n0 Q 0 0 40 [lr 42, x] [] shX I F) :
    ∀ (m k : Nat), (k + m : Int) = I 42 3 → (∀ i, 0 ≤ i ∧ i < (k : Int) → F 45 i = 0) → WS m2_leads d 0 0 n0 Q 0 0 2 [lr 42, li k] [] shX I F := by
  intro m
  induction m with
  | zero =>
    intro k hk hP
    have ek : (k : Int) = I 42 3 := by omega
    rw [ek] at hP
    refine w_iload i2_leads_2 rfl ?_
    refine w_aload i2_leads_3 rfl ?_
    refine w_get i2_leads_4 rfl rfl ?_
    refine w_icmpge i2_leads_7 (fun h7 => ?_) (fun h_ => absurd h_ (by omega))
    refine K4 _ (fun ⟨q, h1, h2, h3, h4⟩ => ?_)
    have := hP q ⟨h1, h2⟩
    omega
  | succ m ih =>
    intro k hk hP
    refine w_iload i2_leads_2 rfl ?_
    refine w_aload i2_leads_3 rfl ?_
    refine w_get i2_leads_4 rfl rfl ?_
    refine w_icmpge i2_leads_7 (fun h_ => absurd h_ (by omega)) (fun h7 => ?_)
    refine w_aload i2_leads_10 rfl ?_
    refine w_getr i2_leads_11 rfl rfl ?_
    refine w_iload i2_leads_14 rfl ?_
    refine w_iald i2_leads_15 rfl (by omega) ?_
    refine w_ifeq i2_leads_16 (fun h16 => ?_) (fun h16 => ?_)
    · refine w_ii1 i2_leads_34 (by omega) ?_
      refine w_goto i2_leads_37 ?_
      refine ih (k + 1) (by omega) (fun i hi => ?_)
      by_cases hik : i = k
      · subst hik; exact h16
      · exact hP i (by omega)
    · refine w_aload i2_leads_19 rfl ?_
      refine w_getr i2_leads_20 rfl rfl ?_
      refine w_iload i2_leads_23 rfl ?_
      refine w_iald i2_leads_24 rfl (by omega) ?_
      refine w_ifle i2_leads_25 (fun h25 => ?_) (fun h25 => ?_)
      · refine w_const i2_leads_32 ?_
        first
        | exact K _ _ (Or.inl ⟨rfl, k, by omega, by omega, hP, h25⟩)
        | (refine K _ _ (Or.inr ⟨rfl, fun ⟨q, h1, h2, h3, h4⟩ => ?_⟩)
           rcases Int.lt_trichotomy q k with h | h | h
           · have := hP q ⟨h1, h⟩; omega
           · subst h; omega
           · exact h16 (h3 k (by omega)))
      · refine w_const i2_leads_28 ?_
        refine w_goto i2_leads_29 ?_
        first
        | exact K _ _ (Or.inl ⟨rfl, k, by omega, by omega, hP, h25⟩)
        | (refine K _ _ (Or.inr ⟨rfl, fun ⟨q, h1, h2, h3, h4⟩ => ?_⟩)
           rcases Int.lt_trichotomy q k with h | h | h
           · have := hP q ⟨h1, h⟩; omega
           · subst h; omega
           · exact h16 (h3 k (by omega)))
theorem s2_leads {d : Nat} {I : IE} {F : FE} (hn : 0 ≤ I 42 3 ∧ I 42 3 ≤ 4) : MP m2_leads d shX [rv 42] I F (tf (lead (F 45) (I 42 3))) := by
  refine MS_of (ls := [lr 42, lu]) f2_leads rfl rfl (Nat.le_of_ble_eq_true rfl) ?_
  refine w_const i2_leads_0 ?_
  refine w_is1 i2_leads_1 ?_
  refine l2_leads hn (fun x v h => ?_) (fun x h => ?_) (I 42 3).toNat 0 (by omega) (fun i hi => absurd hi (by omega))
  · refine w_iret i2_leads_33 (Or.inr ⟨rfl, by rcases h with h | h <;> omega⟩) ⟨Nat.le_refl _, Nat.le_refl _⟩ ?_
    exact ⟨rfl, v, rfl, h, rfl, rfl⟩
  · refine w_const i2_leads_40 ?_
    refine w_iret i2_leads_41 (Or.inr ⟨rfl, by omega⟩) ⟨Nat.le_refl _, Nat.le_refl _⟩ ?_
    exact ⟨rfl, _, rfl, Or.inr ⟨rfl, h⟩, rfl, rfl⟩
theorem shor {c b : Int} {k : Nat} (hc : 0 ≤ c) (hk : k < 31) (h : c * 2 ^ k + 2 ^ k ≤ 2147483648) (hb : 0 ≤ b ∧ b < 2 ^ k) : borI (shlI c k) b = c * 2 ^ k + b := by
  rw [shlI_eq hc hk (by omega)]
  obtain ⟨x, rfl⟩ : ∃ x : Nat, c = (x : Int) := ⟨c.toNat, by omega⟩
  obtain ⟨y, rfl⟩ : ∃ y : Nat, b = (y : Int) := ⟨b.toNat, by omega⟩
  have e : (x : Int) * 2 ^ k = ((2 ^ k * x : Nat) : Int) := by push_cast; rw [Int.mul_comm]
  have ek : (2 : Int) ^ k = ((2 ^ k : Nat) : Int) := by push_cast; rfl
  rw [e] at h ⊢
  rw [ek] at h hb
  have hy : y < 2 ^ k := by omega
  rw [borI_nat (by omega) (by omega), ← Nat.two_pow_add_eq_or_of_lt hy]
  push_cast
  rfl
def ab (x : Int) : Int := if 0 ≤ x then x else -x
def asum (f : Int → Int) : Nat → Int
  | 0 => 0
  | k + 1 => asum f k + ab (f k)
def ccode (f : Int → Int) : Nat → Int
  | 0 => 0
  | k + 1 => ccode f k * 32 + (9 - f k)
/-- the number of a vector in the order of the elements -/
def kc (f : Int → Int) : Int := asum f 4 * 1048576 + ccode f 4
theorem ab_b {x B : Int} (h : -B ≤ x ∧ x ≤ B) : 0 ≤ ab x ∧ ab x ≤ B := by unfold ab; split <;> omega
theorem l2_encode {d n0 : Nat} {Q : PQ} {I : IE} {F : FE} (hd : 1 ≤ d) (hv : ∀ j, 0 ≤ j ∧ j < 4 → -9 ≤ F 45 j ∧ F 45 j ≤ 9)
    (K : WS m2_encode d 0 0 n0 Q 0 0 43 [lr 42, li (asum (F 45) 4), li (ccode (F 45) 4), li 4] [] shX I F) :
    ∀ (m k : Nat), k + m = 4 → 0 ≤ asum (F 45) k ∧ asum (F 45) k ≤ 9 * k → 0 ≤ ccode (F 45) k ∧ ccode (F 45) k < 32 ^ k → WS m2_encode d 0 0 n0 Q 0 0 6 [lr 42, li (asum (F 45) k), li (ccode (F 45) k), li k] [] shX I F := by
  intro m
  induction m with
  | zero =>
    intro k hk h1 h2
    obtain rfl : k = 4 := by omega
    refine w_iload i2_encode_6 rfl ?_
    refine w_const i2_encode_7 ?_
    refine w_icmpge i2_encode_8 (fun h8 => ?_) (fun h_ => absurd h_ (by omega))
    exact K
  | succ m ih =>
    intro k hk h1 h2
    have hb := hv k (by omega)
    have hab := ab_b hb
    have hp : (32 : Int) ^ k ≤ 32 ^ 3 := by
      rcases (show k = 0 ∨ k = 1 ∨ k = 2 ∨ k = 3 by omega) with rfl | rfl | rfl | rfl <;> decide
    have e1 : borI (shlI (ccode (F 45) k) 5) (9 - F 45 k) = ccode (F 45) k * 2 ^ 5 + (9 - F 45 k) := shor (k := 5) h2.1 (by decide) (by omega) (by omega)
    have e2 : (32 : Int) ^ (k + 1) = 32 ^ k * 32 := by rw [Int.pow_succ]
    refine w_iload i2_encode_6 rfl ?_
    refine w_const i2_encode_7 ?_
    refine w_icmpge i2_encode_8 (fun h_ => absurd h_ (by omega)) (fun h8 => ?_)
    refine w_iload i2_encode_11 rfl ?_
    refine w_aload i2_encode_12 rfl ?_
    refine w_getr i2_encode_13 rfl rfl ?_
    refine w_iload i2_encode_16 rfl ?_
    refine w_iald i2_encode_17 rfl (by omega) ?_
    refine w_mabs i2_encode_18 (by omega) (by omega) ⟨Nat.le_refl _, Nat.le_refl _⟩ (Nat.le_of_ble_eq_true rfl) ?_
    refine w_iadd i2_encode_21 ((by have h3 := hab; unfold ab at h3; constructor <;> omega)) ?_
    refine w_is1 i2_encode_22 ?_
    refine w_iload i2_encode_23 rfl ?_
    refine w_const i2_encode_24 ?_
    refine w_ishl i2_encode_25 ?_
    refine w_const i2_encode_26 ?_
    refine w_aload i2_encode_28 rfl ?_
    refine w_getr i2_encode_29 rfl rfl ?_
    refine w_iload i2_encode_32 rfl ?_
    refine w_iald i2_encode_33 rfl (by omega) ?_
    refine w_isub i2_encode_34 (by omega) ?_
    refine w_ior i2_encode_35 ?_
    rw [e1]
    refine w_is2 i2_encode_36 ?_
    refine w_ii3 i2_encode_37 (by omega) ?_
    refine w_goto i2_encode_40 ?_
    have e3 : asum (F 45) (k + 1) = asum (F 45) k + ab (F 45 k) := rfl
    have e4 : ccode (F 45) (k + 1) = ccode (F 45) k * 32 + (9 - F 45 k) := rfl
    exact ih (k + 1) (by omega) (by rw [e3]; omega) (by rw [e4, e2]; omega)
theorem kc_b {f : Int → Int} (hv : ∀ j, 0 ≤ j ∧ j < 4 → -9 ≤ f j ∧ f j ≤ 9) : 0 ≤ asum f 4 ∧ asum f 4 ≤ 36 ∧ 0 ≤ ccode f 4 ∧ ccode f 4 < 1048576 := by
  have h0 := ab_b (hv 0 (by decide)); have h1 := ab_b (hv 1 (by decide)); have h2 := ab_b (hv 2 (by decide)); have h3 := ab_b (hv 3 (by decide))
  have g0 := hv 0 (by decide); have g1 := hv 1 (by decide); have g2 := hv 2 (by decide); have g3 := hv 3 (by decide)
  have e : asum f 4 = 0 + ab (f 0) + ab (f 1) + ab (f 2) + ab (f 3) := rfl
  have e2 : ccode f 4 = (((0 * 32 + (9 - f 0)) * 32 + (9 - f 1)) * 32 + (9 - f 2)) * 32 + (9 - f 3) := rfl
  rw [e, e2]
  omega
theorem s2_encode {d : Nat} {I : IE} {F : FE} (hd : 1 ≤ d) (hv : ∀ j, 0 ≤ j ∧ j < 4 → -9 ≤ F 45 j ∧ F 45 j ≤ 9) : MR m2_encode d shX [rv 42] I F (kc (F 45)) := by
  have hb := kc_b hv
  have e1 : borI (shlI (asum (F 45) 4) 20) (ccode (F 45) 4) = asum (F 45) 4 * 2 ^ 20 + ccode (F 45) 4 := shor (k := 20) hb.1 (by decide) (by omega) (by omega)
  have e2 : asum (F 45) 4 * 2 ^ 20 + ccode (F 45) 4 = kc (F 45) := by unfold kc; omega
  refine MS_of (ls := [lr 42, lu, lu, lu]) f2_encode rfl rfl (Nat.le_of_ble_eq_true rfl) ?_
  refine w_const i2_encode_0 ?_
  refine w_is1 i2_encode_1 ?_
  refine w_const i2_encode_2 ?_
  refine w_is2 i2_encode_3 ?_
  refine w_const i2_encode_4 ?_
  refine w_is3 i2_encode_5 ?_
  refine l2_encode hd hv ?_ 4 0 (by decide) (by simp [asum]) (by simp [ccode])
  refine w_iload i2_encode_43 rfl ?_
  refine w_const i2_encode_44 ?_
  refine w_ishl i2_encode_46 ?_
  refine w_iload i2_encode_47 rfl ?_
  refine w_ior i2_encode_48 ?_
  rw [e1, e2]
  refine w_iret i2_encode_49 (Or.inl rfl) ⟨Nat.le_refl _, Nat.le_refl _⟩ ?_
  exact ⟨rfl, rfl, rfl, rfl⟩
theorem band31 {x : Int} (h : 0 ≤ x ∧ x < 2147483648) : bandI x 31 = x % 32 := by
  obtain ⟨n, rfl⟩ : ∃ n : Nat, x = (n : Int) := ⟨x.toNat, by omega⟩
  have := bandI_nat (a := n) (b := 31) (by omega) (by decide)
  rw [Nat.and_two_pow_sub_one_eq_mod n 5] at this
  rw [show bandI (n : Int) 31 = bandI (n : Int) ((31 : Nat) : Int) from rfl, this]
  push_cast
  rfl
theorem dec_at {f : Int → Int} (hv : ∀ j, 0 ≤ j ∧ j < 4 → -9 ≤ f j ∧ f j ≤ 9) {k : Nat} (hk : k < 4) : 9 - bandI (shrI (kc f) (5 * (3 - (k : Int)))) 31 = f k := by
  have hb := kc_b hv
  have hkc : kc f = asum f 4 * 1048576 + ccode f 4 := rfl
  have g0 := hv 0 (by decide); have g1 := hv 1 (by decide); have g2 := hv 2 (by decide); have g3 := hv 3 (by decide)
  have e2 : ccode f 4 = (((0 * 32 + (9 - f 0)) * 32 + (9 - f 1)) * 32 + (9 - f 2)) * 32 + (9 - f 3) := rfl
  have key : ∀ q : Nat, q < 31 → shrI (kc f) (q : Int) = kc f / 2 ^ q := fun q hq => shrI_eq ⟨by omega, by omega⟩ hq
  rcases (show k = 0 ∨ k = 1 ∨ k = 2 ∨ k = 3 by omega) with rfl | rfl | rfl | rfl
  · have := key 15 (by decide)
    rw [show (5 * (3 - ((0 : Nat) : Int))) = ((15 : Nat) : Int) by decide, this, band31 (by omega)]
    simp only [Int.natCast_zero] 
    omega
  · have := key 10 (by decide)
    rw [show (5 * (3 - ((1 : Nat) : Int))) = ((10 : Nat) : Int) by decide, this, band31 (by omega)]
    show 9 - _ = f 1
    omega
  · have := key 5 (by decide)
    rw [show (5 * (3 - ((2 : Nat) : Int))) = ((5 : Nat) : Int) by decide, this, band31 (by omega)]
    show 9 - _ = f 2
    omega
  · have := key 0 (by decide)
    rw [show (5 * (3 - ((3 : Nat) : Int))) = ((0 : Nat) : Int) by decide, this, band31 (by omega)]
    show 9 - _ = f 3
    omega
theorem l2_decode {d n0 : Nat} {Q : PQ} {I : IE} {F : FE} {f : Int → Int} (hv : ∀ j, 0 ≤ j ∧ j < 4 → -9 ≤ f j ∧ f j ≤ 9)
    (K : ∀ F', (∀ i, 0 ≤ i ∧ i < 4 → F' 45 i = f i) → (∀ a, a ≠ 45 → F' a = F a) → WS m2_decode d 0 0 n0 Q 0 0 32 [lr 42, li (kc f), li 4] [] shX I F') :
    ∀ (m k : Nat) (F' : FE), k + m = 4 → (∀ i, 0 ≤ i ∧ i < (k : Int) → F' 45 i = f i) → (∀ a, a ≠ 45 → F' a = F a) → WS m2_decode d 0 0 n0 Q 0 0 2 [lr 42, li (kc f), li k] [] shX I F' := by
  intro m
  induction m with
  | zero =>
    intro k F' hk h1 h2
    obtain rfl : k = 4 := by omega
    refine w_iload i2_decode_2 rfl ?_
    refine w_const i2_decode_3 ?_
    refine w_icmpge i2_decode_4 (fun h4 => ?_) (fun h_ => absurd h_ (by omega))
    exact K F' h1 h2
  | succ m ih =>
    intro k F' hk h1 h2
    have hk4 : k < 4 := by omega
    have hd := dec_at hv hk4
    have hfk := hv k (by omega)
    refine w_iload i2_decode_2 rfl ?_
    refine w_const i2_decode_3 ?_
    refine w_icmpge i2_decode_4 (fun h_ => absurd h_ (by omega)) (fun h4 => ?_)
    refine w_aload i2_decode_7 rfl ?_
    refine w_getr i2_decode_8 rfl rfl ?_
    refine w_iload i2_decode_11 rfl ?_
    refine w_const i2_decode_12 ?_
    refine w_iload i2_decode_14 rfl ?_
    refine w_const i2_decode_15 ?_
    refine w_const i2_decode_16 ?_
    refine w_iload i2_decode_17 rfl ?_
    refine w_isub i2_decode_18 (by omega) ?_
    refine w_imul i2_decode_19 (by omega) ?_
    refine w_ishr i2_decode_20 ?_
    refine w_const i2_decode_21 ?_
    refine w_iand i2_decode_23 ?_
    refine w_isub i2_decode_24 (by omega) ?_
    refine w_iast i2_decode_25 rfl (by omega) ?_
    refine w_ii2 i2_decode_26 (by omega) ?_
    refine w_goto i2_decode_29 ?_
    refine ih (k + 1) _ (by omega) (fun i hi => ?_) (fun a ha => ?_)
    · simp only [upF, true_and]
      by_cases hik : i = k
      · subst hik; rw [if_pos rfl]; exact hd
      · rw [if_neg hik]; exact h1 i (by omega)
    · funext i
      simp only [upF, ha, false_and, if_false]
      rw [h2 a ha]
theorem s2_decode {d : Nat} {I : IE} {F : FE} {f : Int → Int} (hv : ∀ j, 0 ≤ j ∧ j < 4 → -9 ≤ f j ∧ f j ≤ 9) : MU m2_decode d shX [rv 42, iv (kc f)] I F (fun I' F' => I' = I ∧ (∀ i, 0 ≤ i ∧ i < 4 → F' 45 i = f i) ∧ ∀ a, a ≠ 45 → F' a = F a) := by
  refine MS_of (ls := [lr 42, li (kc f), lu]) f2_decode rfl rfl (Nat.le_of_ble_eq_true rfl) ?_
  refine w_const i2_decode_0 ?_
  refine w_is2 i2_decode_1 ?_
  refine l2_decode (F := F) hv (fun F' h1 h2 => ?_) 4 0 _ (by decide) (fun i hi => absurd hi (by omega)) (fun _ _ => rfl)
  refine w_vret i2_decode_32 rfl ⟨Nat.le_refl _, Nat.le_refl _⟩ ?_
  exact ⟨rfl, rfl, rfl, h1, h2⟩
theorem s2_takePivot {d : Nat} {I : IE} {F : FE} {r c v : Int} : MU m2_takePivot d shX [rv 42, iv r, iv c, iv v] I F (fun I' F' => F' = F ∧ I' = upI (upI (upI (upI (upI I 42 1 1) 42 4 3) 42 7 r) 42 5 c) 42 8 v) := by
  refine MS_of (ls := [lr 42, li r, li c, li v]) f2_takePivot rfl rfl (Nat.le_of_ble_eq_true rfl) ?_
  refine w_aload i2_takePivot_0 rfl ?_
  refine w_const i2_takePivot_1 ?_
  refine w_put i2_takePivot_2 rfl rfl (Or.inl rfl) ?_
  refine w_aload i2_takePivot_5 rfl ?_
  refine w_const i2_takePivot_6 ?_
  refine w_put i2_takePivot_7 rfl rfl (Or.inl rfl) ?_
  refine w_aload i2_takePivot_10 rfl ?_
  refine w_iload i2_takePivot_11 rfl ?_
  refine w_put i2_takePivot_12 rfl rfl (Or.inl rfl) ?_
  refine w_aload i2_takePivot_15 rfl ?_
  refine w_iload i2_takePivot_16 rfl ?_
  refine w_put i2_takePivot_17 rfl rfl (Or.inl rfl) ?_
  refine w_aload i2_takePivot_20 rfl ?_
  refine w_iload i2_takePivot_21 rfl ?_
  refine w_put i2_takePivot_22 rfl rfl (Or.inl rfl) ?_
  refine w_vret i2_takePivot_25 rfl ⟨Nat.le_refl _, Nat.le_refl _⟩ ?_
  exact ⟨rfl, rfl, rfl, rfl⟩
theorem s2_takePivots {d : Nat} {I : IE} {F : FE} {r c v : Int} : MU m2_takePivots d shX [rv 42, iv r, iv c, iv v] I F (fun I' F' => F' = F ∧ I' = upI (upI (upI (upI (upI I 42 1 2) 42 4 9) 42 5 r) 42 6 c) 42 8 v) := by
  refine MS_of (ls := [lr 42, li r, li c, li v]) f2_takePivots rfl rfl (Nat.le_of_ble_eq_true rfl) ?_
  refine w_aload i2_takePivots_0 rfl ?_
  refine w_const i2_takePivots_1 ?_
  refine w_put i2_takePivots_2 rfl rfl (Or.inl rfl) ?_
  refine w_aload i2_takePivots_5 rfl ?_
  refine w_const i2_takePivots_6 ?_
  refine w_put i2_takePivots_8 rfl rfl (Or.inl rfl) ?_
  refine w_aload i2_takePivots_11 rfl ?_
  refine w_iload i2_takePivots_12 rfl ?_
  refine w_put i2_takePivots_13 rfl rfl (Or.inl rfl) ?_
  refine w_aload i2_takePivots_16 rfl ?_
  refine w_iload i2_takePivots_17 rfl ?_
  refine w_put i2_takePivots_18 rfl rfl (Or.inl rfl) ?_
  refine w_aload i2_takePivots_21 rfl ?_
  refine w_iload i2_takePivots_22 rfl ?_
  refine w_put i2_takePivots_23 rfl rfl (Or.inl rfl) ?_
  refine w_vret i2_takePivots_26 rfl ⟨Nat.le_refl _, Nat.le_refl _⟩ ?_
  exact ⟨rfl, rfl, rfl, rfl⟩
/-- where a number goes in among sorted ones -/
def Ins (f g : Int → Int) (c : Int) (x : Int) (q : Int) : Prop := 0 ≤ q ∧ q ≤ c ∧ (∀ j, 0 ≤ j ∧ j < q → g j = f j ∧ f j ≤ x) ∧ g q = x ∧ ∀ j, q ≤ j ∧ j < c → g (j + 1) = f j ∧ x < f j
theorem l2_ins {d n0 : Nat} {Q : PQ} {I : IE} {F : FE} {x : Int} (hc : 0 ≤ I 42 13 ∧ I 42 13 < 192) (hsrt : ∀ i j, 0 ≤ i ∧ i ≤ j ∧ j < I 42 13 → F 46 i ≤ F 46 j)
    (K : ∀ F' q, 0 ≤ q ∧ q ≤ I 42 13 → (∀ j, 0 ≤ j ∧ j < q → F' 46 j = F 46 j ∧ F 46 j ≤ x) → (∀ j, q ≤ j ∧ j < I 42 13 → F' 46 (j + 1) = F 46 j ∧ x < F 46 j) → (∀ a, a ≠ 46 → F' a = F a) → WS m2_insertCandidate d 0 0 n0 Q 0 0 52 [lr 42, li x, li q] [] shX I F') :
    ∀ (k : Nat) (F' : FE), (k : Int) ≤ I 42 13 → (∀ j, 0 ≤ j ∧ j < (k : Int) → F' 46 j = F 46 j) → (∀ j, (k : Int) ≤ j ∧ j < I 42 13 → F' 46 (j + 1) = F 46 j ∧ x < F 46 j) → (∀ a, a ≠ 46 → F' a = F a) → WS m2_insertCandidate d 0 0 n0 Q 0 0 16 [lr 42, li x, li k] [] shX I F' := by
  intro k
  induction k with
  | zero =>
    intro F' hk h1 h2 h3
    refine w_iload i2_insertCandidate_16 rfl ?_
    refine w_ifle i2_insertCandidate_17 (fun h17 => ?_) (fun h_ => absurd h_ (by omega))
    exact K F' 0 (by omega) (fun j hj => absurd hj (by omega)) (fun j hj => h2 j (by omega)) h3
  | succ k ih =>
    intro F' hk h1 h2 h3
    have e1 : ((k + 1 : Nat) : Int) - 1 = k := by omega
    refine w_iload i2_insertCandidate_16 rfl ?_
    refine w_ifle i2_insertCandidate_17 (fun h_ => absurd h_ (by omega)) (fun h17 => ?_)
    refine w_aload i2_insertCandidate_20 rfl ?_
    refine w_getr i2_insertCandidate_21 rfl rfl ?_
    refine w_iload i2_insertCandidate_24 rfl ?_
    refine w_const i2_insertCandidate_25 ?_
    refine w_isub i2_insertCandidate_26 (by omega) ?_
    rw [e1]
    refine w_iald i2_insertCandidate_27 rfl (by omega) ?_
    refine w_iload i2_insertCandidate_28 rfl ?_
    refine w_icmple i2_insertCandidate_29 (fun h29 => ?_) (fun h29 => ?_)
    · refine K F' ((k + 1 : Nat) : Int) (by omega) (fun j hj => ⟨h1 j hj, ?_⟩) (fun j hj => h2 j hj) h3
      have := hsrt j k (by omega)
      have := h1 k (by omega)
      omega
    · refine w_aload i2_insertCandidate_32 rfl ?_
      refine w_getr i2_insertCandidate_33 rfl rfl ?_
      refine w_iload i2_insertCandidate_36 rfl ?_
      refine w_aload i2_insertCandidate_37 rfl ?_
      refine w_getr i2_insertCandidate_38 rfl rfl ?_
      refine w_iload i2_insertCandidate_41 rfl ?_
      refine w_const i2_insertCandidate_42 ?_
      refine w_isub i2_insertCandidate_43 (by omega) ?_
      rw [e1]
      refine w_iald i2_insertCandidate_44 rfl (by omega) ?_
      refine w_iast i2_insertCandidate_45 rfl (by omega) ?_
      refine w_ii2 i2_insertCandidate_46 (by omega) ?_
      refine w_goto i2_insertCandidate_49 ?_
      have e2 : ((k + 1 : Nat) : Int) + -1 = (k : Nat) := by omega
      rw [e2]
      refine ih _ (by omega) (fun j hj => ?_) (fun j hj => ?_) (fun a ha => ?_)
      · simp only [upF, true_and]
        rw [if_neg (by omega)]
        exact h1 j (by omega)
      · simp only [upF, true_and]
        by_cases hjk : j = k
        · subst hjk
          rw [if_pos (by omega)]
          have := h1 k (by omega)
          exact ⟨this, by omega⟩
        · rw [if_neg (by omega)]
          exact h2 j (by omega)
      · funext i
        simp only [upF, ha, false_and, if_false]
        rw [h3 a ha]
theorem s2_insertCandidate {d : Nat} {I : IE} {F : FE} {x : Int} (hc : 0 ≤ I 42 13 ∧ I 42 13 < 192) (hsrt : ∀ i j, 0 ≤ i ∧ i ≤ j ∧ j < I 42 13 → F 46 i ≤ F 46 j) :
    MU m2_insertCandidate d shX [rv 42, iv x] I F (fun I' F' => I' = upI I 42 13 (I 42 13 + 1) ∧ (∃ q, Ins (F 46) (F' 46) (I 42 13) x q) ∧ ∀ a, a ≠ 46 → F' a = F a) := by
  obtain ⟨k, hk⟩ : ∃ k : Nat, I 42 13 = (k : Int) := ⟨(I 42 13).toNat, by omega⟩
  refine MS_of (ls := [lr 42, li x, lu]) f2_insertCandidate rfl rfl (Nat.le_of_ble_eq_true rfl) ?_
  refine w_aload i2_insertCandidate_0 rfl ?_
  refine w_get i2_insertCandidate_1 rfl rfl ?_
  refine w_const i2_insertCandidate_4 ?_
  refine w_icmplt i2_insertCandidate_7 (fun h7 => ?_) (fun h_ => absurd h_ (by omega))
  refine w_aload i2_insertCandidate_11 rfl ?_
  refine w_get i2_insertCandidate_12 rfl rfl ?_
  refine w_is2 i2_insertCandidate_15 ?_
  refine Eq.mp (congrArg (fun z => WS m2_insertCandidate d 0 0 _ _ 0 0 16 [lr 42, li x, li z] [] shX I F) hk.symm) ?_
  refine l2_ins hc hsrt (fun F' q hq h1 h2 h3 => ?_) k F (by omega) (fun _ _ => rfl) (fun j hj => absurd hj (by omega)) (fun _ _ => rfl)
  refine w_aload i2_insertCandidate_52 rfl ?_
  refine w_getr i2_insertCandidate_53 rfl rfl ?_
  refine w_iload i2_insertCandidate_56 rfl ?_
  refine w_iload i2_insertCandidate_57 rfl ?_
  refine w_iast i2_insertCandidate_58 rfl (by omega) ?_
  refine w_aload i2_insertCandidate_59 rfl ?_
  refine w_dup i2_insertCandidate_60 ?_
  refine w_get i2_insertCandidate_61 rfl rfl ?_
  refine w_const i2_insertCandidate_64 ?_
  refine w_iadd i2_insertCandidate_65 (by omega) ?_
  refine w_put i2_insertCandidate_66 rfl rfl (Or.inl rfl) ?_
  refine w_vret i2_insertCandidate_69 rfl ⟨Nat.le_refl _, Nat.le_refl _⟩ ?_
  refine ⟨rfl, rfl, rfl, ⟨q, hq.1, hq.2, fun j hj => ?_, ?_, fun j hj => ?_⟩, fun a ha => ?_⟩
  · simp only [upF, true_and]; rw [if_neg (by omega)]; exact h1 j hj
  · simp [upF]
  · simp only [upF, true_and]; rw [if_neg (by omega)]; exact h2 j hj
  · funext i
    simp only [upF, ha, false_and, if_false]
    rw [h3 a ha]
