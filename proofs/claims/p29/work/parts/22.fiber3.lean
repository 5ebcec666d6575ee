/-- a vector's n entries, pushed to the right -/
def shf (n : Int) (f : Int → Int) : Int → Int := fun i => if 4 - n ≤ i then f (i - (4 - n)) else 0
def pkn (f : Int → Int) : Nat → Int
  | 0 => 0
  | k + 1 => pkn f k * 128 + f k
theorem pkn_b {f : Int → Int} : ∀ k : Nat, (∀ j : Int, 0 ≤ j ∧ j < k → 0 ≤ f j ∧ f j ≤ 127) → 0 ≤ pkn f k ∧ pkn f k < 128 ^ k
  | 0, _ => by simp [pkn]
  | k + 1, h => by
    have ih := pkn_b k (fun j hj => h j (by omega))
    have := h k (by omega)
    simp only [pkn]
    rw [Int.pow_succ]
    omega
theorem pk_cd4 {n : Int} {f : Int → Int} (hn : 2 ≤ n ∧ n ≤ 4) : pkn f n.toNat = cd4 (shf n f) := by
  rcases (show n = 2 ∨ n = 3 ∨ n = 4 by omega) with rfl | rfl | rfl
  · show (0 * 128 + f 0) * 128 + f 1 = ((0 * 128 + 0) * 128 + f 0) * 128 + f 1
    omega
  · show ((0 * 128 + f 0) * 128 + f 1) * 128 + f 2 = ((0 * 128 + f 0) * 128 + f 1) * 128 + f 2
    omega
  · show (((0 * 128 + f 0) * 128 + f 1) * 128 + f 2) * 128 + f 3 = ((f 0 * 128 + f 1) * 128 + f 2) * 128 + f 3
    omega
theorem band127 {x : Int} (h : 0 ≤ x ∧ x < 2147483648) : bandI x 127 = x % 128 := by
  obtain ⟨n, rfl⟩ : ∃ n : Nat, x = (n : Int) := ⟨x.toNat, by omega⟩
  have := bandI_nat (a := n) (b := 127) (by omega) (by decide)
  rw [Nat.and_two_pow_sub_one_eq_mod n 7] at this
  rw [show bandI (n : Int) 127 = bandI (n : Int) ((127 : Nat) : Int) from rfl, this]
  push_cast
  rfl
def b127 (y : Int → Int) : Prop := ∀ i, 0 ≤ i ∧ i < 4 → 0 ≤ y i ∧ y i ≤ 127
theorem cd4_b {y : Int → Int} (h : b127 y) : 0 ≤ cd4 y ∧ cd4 y < 268435456 := by
  have b0 := h 0 (by decide); have b1 := h 1 (by decide); have b2 := h 2 (by decide); have b3 := h 3 (by decide)
  unfold cd4 pre3; omega
theorem cd4_dg {y : Int → Int} (h : b127 y) {i : Int} (hi : 0 ≤ i ∧ i < 4) : bandI (shrI (cd4 y) (7 * (3 - i))) 127 = y i := by
  have b0 := h 0 (by decide); have b1 := h 1 (by decide); have b2 := h 2 (by decide); have b3 := h 3 (by decide)
  have hc := cd4_b h
  have hcd : cd4 y = ((y 0 * 128 + y 1) * 128 + y 2) * 128 + y 3 := rfl
  have key : ∀ q : Nat, q < 31 → shrI (cd4 y) (q : Int) = cd4 y / 2 ^ q := fun q hq => shrI_eq ⟨by omega, by omega⟩ hq
  rcases (show i = 0 ∨ i = 1 ∨ i = 2 ∨ i = 3 by omega) with rfl | rfl | rfl | rfl
  · have := key 21 (by decide)
    rw [show (7 * (3 - (0 : Int))) = ((21 : Nat) : Int) by decide, this, band127 (by omega)]
    omega
  · have := key 14 (by decide)
    rw [show (7 * (3 - (1 : Int))) = ((14 : Nat) : Int) by decide, this, band127 (by omega)]
    omega
  · have := key 7 (by decide)
    rw [show (7 * (3 - (2 : Int))) = ((7 : Nat) : Int) by decide, this, band127 (by omega)]
    omega
  · have := key 0 (by decide)
    rw [show (7 * (3 - (3 : Int))) = ((0 : Nat) : Int) by decide, this, band127 (by omega)]
    omega
theorem cd4_inj {y z : Int → Int} (hy : b127 y) (hz : b127 z) (e : cd4 y = cd4 z) : ∀ i, 0 ≤ i ∧ i < 4 → y i = z i := fun i hi => by
  rw [← cd4_dg hy hi, e, cd4_dg hz hi]
theorem s1_at {d : Nat} {I : IE} {F : FE} {b N : Nat} {k i : Int} {y : Int → Int} (hB : FbAt b N) (hk : 0 ≤ k ∧ k < I b 0) (hkN : I b 0 ≤ N) (hi : 0 ≤ i ∧ i < I b 1) (hn : 2 ≤ I b 1 ∧ I b 1 ≤ 4) (hy : b127 y) (e : F (b + 3) k = cd4 y) : MR m1_at d shX [rv b, iv k, iv i] I F (y (i + (4 - I b 1))) := by
  have hd := cd4_dg hy (i := i + (4 - I b 1)) (by omega)
  have e2 : 7 * (I b 1 - 1 - i) = 7 * (3 - (i + (4 - I b 1))) := by omega
  refine MS_of (ls := [lr b, li k, li i]) f1_at rfl rfl (Nat.le_of_ble_eq_true rfl) ?_
  refine w_iload i1_at_0 rfl ?_
  refine w_iflt i1_at_1 (fun h_ => absurd h_ (by omega)) (fun h1 => ?_)
  refine w_iload i1_at_4 rfl ?_
  refine w_aload i1_at_5 rfl ?_
  refine w_get i1_at_6 hB.1 rfl ?_
  refine w_icmpge i1_at_9 (fun h_ => absurd h_ (by omega)) (fun h9 => ?_)
  refine w_iload i1_at_12 rfl ?_
  refine w_iflt i1_at_13 (fun h_ => absurd h_ (by omega)) (fun h13 => ?_)
  refine w_iload i1_at_16 rfl ?_
  refine w_aload i1_at_17 rfl ?_
  refine w_get i1_at_18 hB.1 rfl ?_
  refine w_icmplt i1_at_21 (fun h21 => ?_) (fun h_ => absurd h_ (by omega))
  refine w_aload i1_at_26 rfl ?_
  refine w_getr i1_at_27 hB.1 rfl ?_
  refine w_iload i1_at_30 rfl ?_
  refine w_iald i1_at_31 hB.2.2.2.1 (by omega) ?_
  rw [e]
  refine w_const i1_at_32 ?_
  refine w_aload i1_at_34 rfl ?_
  refine w_get i1_at_35 hB.1 rfl ?_
  refine w_const i1_at_38 ?_
  refine w_isub i1_at_39 (by omega) ?_
  refine w_iload i1_at_40 rfl ?_
  refine w_isub i1_at_41 (by omega) ?_
  refine w_imul i1_at_42 (by omega) ?_
  refine w_ishr i1_at_43 ?_
  refine w_const i1_at_44 ?_
  refine w_iand i1_at_46 ?_
  rw [e2, hd]
  refine w_iret i1_at_47 (Or.inl rfl) ⟨Nat.le_refl _, Nat.le_refl _⟩ ?_
  exact ⟨rfl, rfl, rfl, rfl⟩
def idxP (f : Int → Int) (m x r : Int) : Prop := (0 ≤ r ∧ r < m ∧ f r = x) ∨ (r = -1 ∧ ∀ i, 0 ≤ i ∧ i < m → f i ≠ x)
theorem l1_nop {d n0 : Nat} {Q : PQ} {I : IE} {F : FE} {b N : Nat} {x : Int} (hB : FbAt b N) (hm : 0 ≤ I b 0 ∧ I b 0 ≤ N) (hN : N ≤ 2048) (hs : ∀ i j, 0 ≤ i ∧ i < j ∧ j < I b 0 → F (b + 3) i < F (b + 3) j)
    (K : ∀ p, (∀ i, p < i ∧ i < I b 0 → x < F (b + 3) i) → 0 ≤ p → (p = 0 ∨ p < I b 0 ∧ F (b + 3) p ≤ x) → WS m1_numberOfPacked d 0 0 n0 Q 0 0 47 [lr b, li x, li p, li 0] [] shX I F) :
    ∀ (j : Nat) (p : Int), j ≤ 11 → 0 ≤ p → p ≤ 4096 → (∀ i, p + 2 ^ j ≤ i ∧ i < I b 0 → x < F (b + 3) i) → (p = 0 ∨ p < I b 0 ∧ F (b + 3) p ≤ x) → WS m1_numberOfPacked d 0 0 n0 Q 0 0 10 [lr b, li x, li p, li ((2 : Int) ^ j / 2)] [] shX I F := by
  intro j
  induction j with
  | zero =>
    intro p hj hp hp2 h1 h2
    refine w_iload i1_numberOfPacked_10 rfl ?_
    refine w_ifle i1_numberOfPacked_11 (fun h11 => ?_) (fun h_ => absurd h_ (by simp at *))
    exact K p (fun i hi => h1 i (by simp; omega)) hp h2
  | succ j ih =>
    intro p hj hp hp2 h1 h2
    have e1 : (2 : Int) ^ (j + 1) / 2 = 2 ^ j := by rw [Int.pow_succ]; omega
    have e2 : (2 : Int) ^ (j + 1) = 2 * 2 ^ j := by rw [Int.pow_succ]; omega
    have hpos : 0 < (2 : Int) ^ j := Int.pow_pos (by decide)
    have hle : (2 : Int) ^ j ≤ 2 ^ 10 := by
      have := ipow_le (b := 2) (by decide) j (10 - j)
      rw [show j + (10 - j) = 10 by omega] at this
      exact this
    have e3 : ((2 : Int) ^ j).tdiv 2 = 2 ^ j / 2 := Int.tdiv_eq_ediv_of_nonneg (by omega)
    rw [e2] at h1
    rw [e1]
    have next : ∀ p', 0 ≤ p' → p' ≤ 4096 → (∀ i, p' + 2 ^ j ≤ i ∧ i < I b 0 → x < F (b + 3) i) → (p' = 0 ∨ p' < I b 0 ∧ F (b + 3) p' ≤ x) → WS m1_numberOfPacked d 0 0 n0 Q 0 0 40 [lr b, li x, li p', li ((2 : Int) ^ j)] [] shX I F := by
      intro p' q1 q2 q3 q4
      refine w_iload i1_numberOfPacked_40 rfl ?_
      refine w_const i1_numberOfPacked_41 ?_
      refine w_idiv i1_numberOfPacked_42 (by decide) ((by rw [e3]; constructor <;> omega)) ?_
      rw [e3]
      refine w_is3 i1_numberOfPacked_43 ?_
      refine w_goto i1_numberOfPacked_44 ?_
      exact ih p' (by omega) q1 q2 q3 q4
    refine w_iload i1_numberOfPacked_10 rfl ?_
    refine w_ifle i1_numberOfPacked_11 (fun h_ => absurd h_ (by omega)) (fun h11 => ?_)
    refine w_iload i1_numberOfPacked_14 rfl ?_
    refine w_iload i1_numberOfPacked_15 rfl ?_
    refine w_iadd i1_numberOfPacked_16 (by omega) ?_
    refine w_aload i1_numberOfPacked_17 rfl ?_
    refine w_get i1_numberOfPacked_18 hB.1 rfl ?_
    refine w_icmpge i1_numberOfPacked_21 (fun h21 => ?_) (fun h21 => ?_)
    · first
      | (have h21' : I b 0 ≤ p + 2 ^ j := h21
         exact next p hp hp2 (fun i hi => absurd hi (by omega)) h2)
      | (have h33' : x < F (b + 3) (p + 2 ^ j) := h33
         refine next p hp hp2 (fun i hi => ?_) h2
         by_cases e : i = p + 2 ^ j
         · subst e; exact h33
         · have := hs (p + 2 ^ j) i (by omega); omega)
      | exact next (p + 2 ^ j) (by omega) (by omega) (fun i hi => h1 i (by omega)) (Or.inr ⟨h21, h33⟩)
    · refine w_aload i1_numberOfPacked_24 rfl ?_
      refine w_getr i1_numberOfPacked_25 hB.1 rfl ?_
      refine w_iload i1_numberOfPacked_28 rfl ?_
      refine w_iload i1_numberOfPacked_29 rfl ?_
      refine w_iadd i1_numberOfPacked_30 (by omega) ?_
      refine w_iald i1_numberOfPacked_31 hB.2.2.2.1 (by omega) ?_
      refine w_iload i1_numberOfPacked_32 rfl ?_
      refine w_icmpgt i1_numberOfPacked_33 (fun h33 => ?_) (fun h33 => ?_)
      · first
        | (have h21' : I b 0 ≤ p + 2 ^ j := h21
           exact next p hp hp2 (fun i hi => absurd hi (by omega)) h2)
        | (have h33' : x < F (b + 3) (p + 2 ^ j) := h33
           refine next p hp hp2 (fun i hi => ?_) h2
           by_cases e : i = p + 2 ^ j
           · subst e; exact h33
           · have := hs (p + 2 ^ j) i (by omega); omega)
        | exact next (p + 2 ^ j) (by omega) (by omega) (fun i hi => h1 i (by omega)) (Or.inr ⟨h21, h33⟩)
      · refine w_iload i1_numberOfPacked_36 rfl ?_
        refine w_iload i1_numberOfPacked_37 rfl ?_
        refine w_iadd i1_numberOfPacked_38 (by omega) ?_
        refine w_is2 i1_numberOfPacked_39 ?_
        first
        | (have h21' : I b 0 ≤ p + 2 ^ j := h21
           exact next p hp hp2 (fun i hi => absurd hi (by omega)) h2)
        | (have h33' : x < F (b + 3) (p + 2 ^ j) := h33
           refine next p hp hp2 (fun i hi => ?_) h2
           by_cases e : i = p + 2 ^ j
           · subst e; exact h33
           · have := hs (p + 2 ^ j) i (by omega); omega)
        | exact next (p + 2 ^ j) (by omega) (by omega) (fun i hi => h1 i (by omega)) (Or.inr ⟨h21, h33⟩)
theorem s1_numberOfPacked {d : Nat} {I : IE} {F : FE} {b N : Nat} {x : Int} (hB : FbAt b N) (hN2 : N = 2048 ∨ N = 32) (hm : 0 ≤ I b 0 ∧ I b 0 ≤ N) (hs : ∀ i j, 0 ≤ i ∧ i < j ∧ j < I b 0 → F (b + 3) i < F (b + 3) j) : MP m1_numberOfPacked d shX [rv b, iv x] I F (idxP (F (b + 3)) (I b 0) x) := by
  obtain ⟨j, hj, hj2⟩ : ∃ j : Nat, j ≤ 11 ∧ (N : Int) = 2 ^ j := by
    rcases hN2 with rfl | rfl
    · exact ⟨11, by decide, by decide⟩
    · exact ⟨5, by decide, by decide⟩
  have hN : N ≤ 2048 := by omega
  have e3 : (N : Int).tdiv 2 = 2 ^ j / 2 := by rw [hj2]; exact Int.tdiv_eq_ediv_of_nonneg (by omega)
  refine MS_of (ls := [lr b, li x, lu, lu]) f1_numberOfPacked rfl rfl (Nat.le_of_ble_eq_true rfl) ?_
  refine w_const i1_numberOfPacked_0 ?_
  refine w_is2 i1_numberOfPacked_1 ?_
  refine w_aload i1_numberOfPacked_2 rfl ?_
  refine w_getr i1_numberOfPacked_3 hB.1 rfl ?_
  refine w_alen i1_numberOfPacked_6 hB.2.2.2.1 (by omega) ?_
  refine w_const i1_numberOfPacked_7 ?_
  refine w_idiv i1_numberOfPacked_8 (by decide) ((by rw [e3]; constructor <;> omega)) ?_
  rw [e3]
  refine w_is3 i1_numberOfPacked_9 ?_
  refine l1_nop hB hm hN hs (fun p h1 h2 h3 => ?_) j 0 hj (by decide) (by decide) (fun i hi => absurd hi (by omega)) (Or.inl rfl)
  refine w_iload i1_numberOfPacked_47 rfl ?_
  refine w_aload i1_numberOfPacked_48 rfl ?_
  refine w_get i1_numberOfPacked_49 hB.1 rfl ?_
  refine w_icmpge i1_numberOfPacked_52 (fun h52 => ?_) (fun h52 => ?_)
  · refine w_const i1_numberOfPacked_69 ?_
    refine w_iret i1_numberOfPacked_70 (Or.inl rfl) ⟨Nat.le_refl _, Nat.le_refl _⟩ ?_
    first
    | (have h52' : I b 0 ≤ p := h52
       exact ⟨rfl, _, rfl, Or.inr ⟨rfl, fun i hi => absurd hi (by omega)⟩, rfl, rfl⟩)
    | (have h62' : ¬ F (b + 3) p = x := h62
       refine ⟨rfl, _, rfl, Or.inr ⟨rfl, fun i hi e => ?_⟩, rfl, rfl⟩
       rcases Int.lt_trichotomy i p with g | g | g
       · have := hs i p (by omega); omega
       · subst g; exact h62 e
       · have := h1 i (by omega); omega)
    | exact ⟨rfl, _, rfl, Or.inl ⟨h2, h52, h62⟩, rfl, rfl⟩
  · refine w_aload i1_numberOfPacked_55 rfl ?_
    refine w_getr i1_numberOfPacked_56 hB.1 rfl ?_
    refine w_iload i1_numberOfPacked_59 rfl ?_
    refine w_iald i1_numberOfPacked_60 hB.2.2.2.1 (by omega) ?_
    refine w_iload i1_numberOfPacked_61 rfl ?_
    refine w_icmpne i1_numberOfPacked_62 (fun h62 => ?_) (fun h62 => ?_)
    · refine w_const i1_numberOfPacked_69 ?_
      refine w_iret i1_numberOfPacked_70 (Or.inl rfl) ⟨Nat.le_refl _, Nat.le_refl _⟩ ?_
      first
      | (have h52' : I b 0 ≤ p := h52
         exact ⟨rfl, _, rfl, Or.inr ⟨rfl, fun i hi => absurd hi (by omega)⟩, rfl, rfl⟩)
      | (have h62' : ¬ F (b + 3) p = x := h62
         refine ⟨rfl, _, rfl, Or.inr ⟨rfl, fun i hi e => ?_⟩, rfl, rfl⟩
         rcases Int.lt_trichotomy i p with g | g | g
         · have := hs i p (by omega); omega
         · subst g; exact h62 e
         · have := h1 i (by omega); omega)
      | exact ⟨rfl, _, rfl, Or.inl ⟨h2, h52, h62⟩, rfl, rfl⟩
    · refine w_iload i1_numberOfPacked_65 rfl ?_
      refine w_goto i1_numberOfPacked_66 ?_
      refine w_iret i1_numberOfPacked_70 (Or.inl rfl) ⟨Nat.le_refl _, Nat.le_refl _⟩ ?_
      first
      | (have h52' : I b 0 ≤ p := h52
         exact ⟨rfl, _, rfl, Or.inr ⟨rfl, fun i hi => absurd hi (by omega)⟩, rfl, rfl⟩)
      | (have h62' : ¬ F (b + 3) p = x := h62
         refine ⟨rfl, _, rfl, Or.inr ⟨rfl, fun i hi e => ?_⟩, rfl, rfl⟩
         rcases Int.lt_trichotomy i p with g | g | g
         · have := hs i p (by omega); omega
         · subst g; exact h62 e
         · have := h1 i (by omega); omega)
      | exact ⟨rfl, _, rfl, Or.inl ⟨h2, h52, h62⟩, rfl, rfl⟩
theorem l1_no {d n0 : Nat} {Q : PQ} {I : IE} {F : FE} {b N p Np : Nat} (hB : FbAt b N) (hn : 2 ≤ I b 1 ∧ I b 1 ≤ 4) (hp : shX[p]? = some (.inl Np)) (hNp : 4 ≤ Np) (hv : ∀ j, 0 ≤ j ∧ j < 4 → 0 ≤ F p j ∧ F p j ≤ 127)
    (K : ∀ x, WS m1_numberOf d 0 0 n0 Q 0 0 27 [lr b, lr p, li (pkn (F p) (I b 1).toNat), x] [] shX I F) :
    ∀ (m k : Nat), (k + m : Int) = I b 1 → WS m1_numberOf d 0 0 n0 Q 0 0 4 [lr b, lr p, li (pkn (F p) k), li k] [] shX I F := by
  intro m
  induction m with
  | zero =>
    intro k hk
    obtain rfl : k = (I b 1).toNat := by omega
    refine w_iload i1_numberOf_4 rfl ?_
    refine w_aload i1_numberOf_5 rfl ?_
    refine w_get i1_numberOf_6 hB.1 rfl ?_
    refine w_icmpge i1_numberOf_9 (fun h9 => ?_) (fun h_ => absurd h_ (by omega))
    exact K _
  | succ m ih =>
    intro k hk
    have hb := pkn_b (f := F p) k (fun j hj => hv j (by omega))
    have hvk := hv k (by omega)
    have hp3 : (128 : Int) ^ k ≤ 128 ^ 3 := by
      have := ipow_le (b := 128) (by decide) k (3 - k)
      rw [show k + (3 - k) = 3 by omega] at this
      exact this
    have esh : borI (shlI (pkn (F p) k) 7) (F p k) = pkn (F p) k * 2 ^ 7 + F p k := shor (k := 7) hb.1 (by decide) (by omega) (by omega)
    have e2 : pkn (F p) k * 2 ^ 7 + F p k = pkn (F p) (k + 1) := rfl
    refine w_iload i1_numberOf_4 rfl ?_
    refine w_aload i1_numberOf_5 rfl ?_
    refine w_get i1_numberOf_6 hB.1 rfl ?_
    refine w_icmpge i1_numberOf_9 (fun h_ => absurd h_ (by omega)) (fun h9 => ?_)
    refine w_iload i1_numberOf_12 rfl ?_
    refine w_const i1_numberOf_13 ?_
    refine w_ishl i1_numberOf_15 ?_
    refine w_aload i1_numberOf_16 rfl ?_
    refine w_iload i1_numberOf_17 rfl ?_
    refine w_iald i1_numberOf_18 hp (by omega) ?_
    refine w_ior i1_numberOf_19 ?_
    rw [esh, e2]
    refine w_is2 i1_numberOf_20 ?_
    refine w_ii3 i1_numberOf_21 (by omega) ?_
    refine w_goto i1_numberOf_24 ?_
    exact ih (k + 1) (by omega)
theorem s1_numberOf {d : Nat} {I : IE} {F : FE} {b N p Np : Nat} (hB : FbAt b N) (hd : 1 ≤ d) (hN2 : N = 2048 ∨ N = 32) (hm : 0 ≤ I b 0 ∧ I b 0 ≤ N) (hn : 2 ≤ I b 1 ∧ I b 1 ≤ 4) (hs : ∀ i j, 0 ≤ i ∧ i < j ∧ j < I b 0 → F (b + 3) i < F (b + 3) j) (hp : shX[p]? = some (.inl Np)) (hNp : 4 ≤ Np) (hv : ∀ j, 0 ≤ j ∧ j < 4 → 0 ≤ F p j ∧ F p j ≤ 127) :
    MP m1_numberOf d shX [rv b, rv p] I F (idxP (F (b + 3)) (I b 0) (cd4 (shf (I b 1) (F p)))) := by
  refine MS_of (ls := [lr b, lr p, lu, lu]) f1_numberOf rfl rfl (Nat.le_of_ble_eq_true rfl) ?_
  refine w_const i1_numberOf_0 ?_
  refine w_is2 i1_numberOf_1 ?_
  refine w_const i1_numberOf_2 ?_
  refine w_is3 i1_numberOf_3 ?_
  refine l1_no hB hn hp hNp hv (fun x => ?_) (I b 1).toNat 0 (by omega)
  refine w_aload i1_numberOf_27 rfl ?_
  refine w_iload i1_numberOf_28 rfl ?_
  rw [pk_cd4 hn]
  refine w_cVP i1_numberOf_29 f1_numberOfPacked v1_numberOfPacked (s1_numberOfPacked hB hN2 hm hs) rfl hB.1 (by decide) rfl rfl (Nat.le_of_ble_eq_true rfl) (by omega) (fun v hv_ => ?_)
  refine w_iret i1_numberOf_32 (Or.inl rfl) ⟨Nat.le_refl _, Nat.le_refl _⟩ ?_
  exact ⟨rfl, _, rfl, hv_, rfl, rfl⟩
/-- where a step leads among the codes -/
def NasP (f : Int → Int) (m n : Int) (v : Int → Int) (r : Int) : Prop := (r = -1 ∧ ∃ i, 0 ≤ i ∧ i < n ∧ v i < 0) ∨ ((∀ i, 0 ≤ i ∧ i < n → 0 ≤ v i) ∧ idxP f m (cd4 (shf n v)) r)
theorem l1_nas {d n0 : Nat} {Q : PQ} {I : IE} {F : FE} {b N : Nat} {k e s : Int} {y : Int → Int} (hB : FbAt b N) (hd : 1 ≤ d) (hk : 0 ≤ k ∧ k < I b 0) (hkN : I b 0 ≤ N) (hn : 2 ≤ I b 1 ∧ I b 1 ≤ 4) (hy : b127 y) (hy2 : ∀ i, 0 ≤ i ∧ i < 4 → y i ≤ 110) (ey : F (b + 3) k = cd4 y) (he : 0 ≤ e ∧ e < 16) (hs : s = 1 ∨ s = -1) (hE : ∀ i, 0 ≤ i ∧ i < I b 1 → -10 ≤ en F e i ∧ en F e i ≤ 10)
    (K1 : ∀ x x7, (∀ i, 0 ≤ i ∧ i < I b 1 → 0 ≤ y (i + (4 - I b 1)) + s * en F e i) → WS m1_numberAfterStep d 0 0 n0 Q 0 0 58 [lr b, li k, lr 42, li e, li s, li (pkn (fun i => y (i + (4 - I b 1)) + s * en F e i) (I b 1).toNat), x, x7] [] shX I F)
    (K0 : ∀ x5 x6 x7, (∃ i, 0 ≤ i ∧ i < I b 1 ∧ y (i + (4 - I b 1)) + s * en F e i < 0) → WS m1_numberAfterStep d 0 0 n0 Q 0 0 40 [lr b, li k, lr 42, li e, li s, x5, x6, x7] [] shX I F) :
    ∀ (m j : Nat) (x7 : Option AV), (j + m : Int) = I b 1 → (∀ i, 0 ≤ i ∧ i < (j : Int) → 0 ≤ y (i + (4 - I b 1)) + s * en F e i) → WS m1_numberAfterStep d 0 0 n0 Q 0 0 6 [lr b, li k, lr 42, li e, li s, li (pkn (fun i => y (i + (4 - I b 1)) + s * en F e i) j), li j, x7] [] shX I F := by
  have hvb : ∀ i, 0 ≤ i ∧ i < I b 1 → -10 ≤ y (i + (4 - I b 1)) + s * en F e i ∧ y (i + (4 - I b 1)) + s * en F e i ≤ 127 := fun i hi => by
    have a1 := hy (i + (4 - I b 1)) (by omega)
    have a2 := hy2 (i + (4 - I b 1)) (by omega)
    have a3 := hE i hi
    rcases hs with rfl | rfl <;> omega
  intro m
  induction m with
  | zero =>
    intro j x7 hj h1
    obtain rfl : j = (I b 1).toNat := by omega
    refine w_iload i1_numberAfterStep_6 rfl ?_
    refine w_aload i1_numberAfterStep_8 rfl ?_
    refine w_get i1_numberAfterStep_9 hB.1 rfl ?_
    refine w_icmpge i1_numberAfterStep_12 (fun h12 => ?_) (fun h_ => absurd h_ (by omega))
    exact K1 _ _ (fun i hi => h1 i (by omega))
  | succ m ih =>
    intro j x7 hj h1
    have hb := pkn_b (f := fun i => y (i + (4 - I b 1)) + s * en F e i) j (fun i hi => ⟨h1 i hi, (hvb i (by omega)).2⟩)
    have hvj := hvb j (by omega)
    have hse : -10 ≤ s * en F e j ∧ s * en F e j ≤ 10 := by
      have := hE j (by omega)
      rcases hs with rfl | rfl <;> omega
    have a2 := hy2 (j + (4 - I b 1)) (by omega)
    have a1 := hy (j + (4 - I b 1)) (by omega)
    have hp3 : (128 : Int) ^ j ≤ 128 ^ 3 := by
      have := ipow_le (b := 128) (by decide) j (3 - j)
      rw [show j + (3 - j) = 3 by omega] at this
      exact this
    refine w_iload i1_numberAfterStep_6 rfl ?_
    refine w_aload i1_numberAfterStep_8 rfl ?_
    refine w_get i1_numberAfterStep_9 hB.1 rfl ?_
    refine w_icmpge i1_numberAfterStep_12 (fun h_ => absurd h_ (by omega)) (fun h12 => ?_)
    refine w_aload i1_numberAfterStep_15 rfl ?_
    refine w_iload i1_numberAfterStep_16 rfl ?_
    refine w_iload i1_numberAfterStep_17 rfl ?_
    refine w_cVR i1_numberAfterStep_19 f1_at v1_at (s1_at hB hk hkN (by omega) hn hy ey) rfl hB.1 (by decide) rfl rfl (Nat.le_of_ble_eq_true rfl) (by omega) ?_
    refine w_iload i1_numberAfterStep_22 rfl ?_
    refine w_aload i1_numberAfterStep_24 rfl ?_
    refine w_iload i1_numberAfterStep_25 rfl ?_
    refine w_iload i1_numberAfterStep_26 rfl ?_
    refine w_cVR i1_numberAfterStep_28 f2_at v2_at (s2_at he (by omega)) rfl rfl (by decide) rfl rfl (Nat.le_of_ble_eq_true rfl) (by omega) ?_
    refine w_imul i1_numberAfterStep_31 (by omega) ?_
    refine w_iadd i1_numberAfterStep_32 (by omega) ?_
    refine w_is7 i1_numberAfterStep_33 ?_
    refine w_iload i1_numberAfterStep_35 rfl ?_
    refine w_ifge i1_numberAfterStep_37 (fun h37 => ?_) (fun h37 => ?_)
    · refine w_iload i1_numberAfterStep_42 rfl ?_
      refine w_const i1_numberAfterStep_44 ?_
      refine w_ishl i1_numberAfterStep_46 ?_
      refine w_iload i1_numberAfterStep_47 rfl ?_
      have esh : borI (shlI (pkn (fun i => y (i + (4 - I b 1)) + s * en F e i) j) 7) (y (j + (4 - I b 1)) + s * en F e j) = pkn (fun i => y (i + (4 - I b 1)) + s * en F e i) j * 2 ^ 7 + (y (j + (4 - I b 1)) + s * en F e j) := shor (k := 7) hb.1 (by decide) (by omega) (by omega)
      refine w_ior i1_numberAfterStep_49 ?_
      rw [esh]
      refine w_is5 i1_numberAfterStep_50 ?_
      refine w_ii6 i1_numberAfterStep_52 (by omega) ?_
      refine w_goto i1_numberAfterStep_55 ?_
      refine ih (j + 1) _ (by omega) (fun i hi => ?_)
      by_cases e' : i = j
      · subst e'; exact h37
      · exact h1 i (by omega)
    · exact K0 _ _ _ ⟨j, by omega, by omega, h37⟩
theorem s1_numberAfterStep {d : Nat} {I : IE} {F : FE} {b N : Nat} {k e s : Int} {y : Int → Int} (hB : FbAt b N) (hd : 1 ≤ d) (hN2 : N = 2048 ∨ N = 32) (hk : 0 ≤ k ∧ k < I b 0) (hkN : I b 0 ≤ N) (hn : 2 ≤ I b 1 ∧ I b 1 ≤ 4) (hsrt : ∀ i j, 0 ≤ i ∧ i < j ∧ j < I b 0 → F (b + 3) i < F (b + 3) j) (hy : b127 y) (hy2 : ∀ i, 0 ≤ i ∧ i < 4 → y i ≤ 110) (ey : F (b + 3) k = cd4 y) (he : 0 ≤ e ∧ e < 16) (hs : s = 1 ∨ s = -1) (hE : ∀ i, 0 ≤ i ∧ i < I b 1 → -10 ≤ en F e i ∧ en F e i ≤ 10) :
    MP m1_numberAfterStep d shX [rv b, iv k, rv 42, iv e, iv s] I F (NasP (F (b + 3)) (I b 0) (I b 1) (fun i => y (i + (4 - I b 1)) + s * en F e i)) := by
  refine MS_of (ls := [lr b, li k, lr 42, li e, li s, lu, lu, lu]) f1_numberAfterStep rfl rfl (Nat.le_of_ble_eq_true rfl) ?_
  refine w_const i1_numberAfterStep_0 ?_
  refine w_is5 i1_numberAfterStep_1 ?_
  refine w_const i1_numberAfterStep_3 ?_
  refine w_is6 i1_numberAfterStep_4 ?_
  refine l1_nas hB hd hk hkN hn hy hy2 ey he hs hE (fun x x7 h => ?_) (fun x5 x6 x7 h => ?_) (I b 1).toNat 0 _ (by omega) (fun i hi => absurd hi (by omega))
  · refine w_aload i1_numberAfterStep_58 rfl ?_
    refine w_iload i1_numberAfterStep_59 rfl ?_
    rw [pk_cd4 hn]
    refine w_cVP i1_numberAfterStep_61 f1_numberOfPacked v1_numberOfPacked (s1_numberOfPacked hB hN2 (by omega) hsrt) rfl hB.1 (by decide) rfl rfl (Nat.le_of_ble_eq_true rfl) (by omega) (fun v hv => ?_)
    refine w_iret i1_numberAfterStep_64 (Or.inl rfl) ⟨Nat.le_refl _, Nat.le_refl _⟩ ?_
    exact ⟨rfl, _, rfl, Or.inr ⟨h, hv⟩, rfl, rfl⟩
  · refine w_const i1_numberAfterStep_40 ?_
    refine w_iret i1_numberAfterStep_41 (Or.inl rfl) ⟨Nat.le_refl _, Nat.le_refl _⟩ ?_
    exact ⟨rfl, _, rfl, Or.inl ⟨rfl, h⟩, rfl, rfl⟩
