-- the basis: place 42: 0 count, 1 rankOfMatrix, 2 entries (43), 3 columns, 4 bound, 5 firstPivot, 6 secondPivot, 7 pivotRow, 8 divisor, 9 freeCount, 10 freeColumns (44), 11 vector (45), 12 candidates (46), 13 candidateCount
theorem mulr {a b : Int} (ha : -1000 ≤ a ∧ a ≤ 1000) (hb : -1000 ≤ b ∧ b ≤ 1000) : -1000000 ≤ a * b ∧ a * b ≤ 1000000 := by
  have h1 := Int.mul_nonneg (show 0 ≤ 1000 - a by omega) (show 0 ≤ 1000 + b by omega)
  have h2 := Int.mul_nonneg (show 0 ≤ 1000 + a by omega) (show 0 ≤ 1000 - b by omega)
  have h3 := Int.mul_nonneg (show 0 ≤ 1000 - a by omega) (show 0 ≤ 1000 - b by omega)
  have h4 := Int.mul_nonneg (show 0 ≤ 1000 + a by omega) (show 0 ≤ 1000 + b by omega)
  rw [Int.sub_mul, Int.mul_add, Int.mul_add] at h1
  rw [Int.add_mul, Int.mul_sub, Int.mul_sub] at h2
  rw [Int.sub_mul, Int.mul_sub, Int.mul_sub] at h3
  rw [Int.add_mul, Int.mul_add, Int.mul_add] at h4
  omega
/-- between 0 and v -/
def c1 (u v : Int) : Prop := (0 ≤ u ∧ u ≤ v) ∨ (v ≤ u ∧ u ≤ 0)
theorem c1_iff {u v : Int} : c1 u v ↔ 0 ≤ u * v ∧ (if 0 ≤ u then u else -u) ≤ (if 0 ≤ v then v else -v) := by
  unfold c1
  constructor
  · intro h
    rcases h with ⟨h1, h2⟩ | ⟨h1, h2⟩
    · refine ⟨Int.mul_nonneg h1 (by omega), ?_⟩
      rw [if_pos h1, if_pos (by omega)]; exact h2
    · refine ⟨Int.mul_nonneg_of_nonpos_of_nonpos h2 (by omega), ?_⟩
      (repeat' split) <;> omega
  · intro ⟨h1, h2⟩
    by_cases hu : 0 ≤ u
    · rw [if_pos hu] at h2
      by_cases hv : 0 ≤ v
      · rw [if_pos hv] at h2; exact Or.inl ⟨hu, h2⟩
      · by_cases hu0 : u = 0
        · exact Or.inr ⟨by omega, by omega⟩
        · have := Int.mul_neg_of_pos_of_neg (show 0 < u by omega) (show v < 0 by omega)
          omega
    · rw [if_neg hu] at h2
      by_cases hv : 0 ≤ v
      · by_cases hv0 : v = 0
        · subst hv0; simp at h2; omega
        · have := Int.mul_neg_of_neg_of_pos (show u < 0 by omega) (show 0 < v by omega)
          omega
      · rw [if_neg hv] at h2; exact Or.inr ⟨by omega, by omega⟩
/-- row e of the elements -/
def en (F : FE) (e : Int) : Int → Int := fun i => F 43 (e * 4 + i)
theorem s2_at {d : Nat} {I : IE} {F : FE} {e i : Int} (he : 0 ≤ e ∧ e < 16) (hi : 0 ≤ i ∧ i ≤ 3) : MR m2_at d shX [rv 42, iv e, iv i] I F (en F e i) := by
  refine MS_of (ls := [lr 42, li e, li i, lu]) f2_at rfl rfl (Nat.le_of_ble_eq_true rfl) ?_
  refine w_iload i2_at_0 rfl ?_
  refine w_const i2_at_1 ?_
  refine w_imul i2_at_2 (by omega) ?_
  refine w_iload i2_at_3 rfl ?_
  refine w_iadd i2_at_4 (by omega) ?_
  refine w_is3 i2_at_5 ?_
  refine w_iload i2_at_6 rfl ?_
  refine w_iflt i2_at_7 (fun h_ => absurd h_ (by omega)) (fun h7 => ?_)
  refine w_iload i2_at_10 rfl ?_
  refine w_aload i2_at_11 rfl ?_
  refine w_getr i2_at_12 rfl rfl ?_
  refine w_alen i2_at_15 rfl (by decide) ?_
  refine w_icmpge i2_at_16 (fun h_ => absurd h_ (by omega)) (fun h16 => ?_)
  refine w_aload i2_at_19 rfl ?_
  refine w_getr i2_at_20 rfl rfl ?_
  refine w_iload i2_at_23 rfl ?_
  refine w_iald i2_at_24 rfl (by omega) ?_
  refine w_goto i2_at_25 ?_
  refine w_iret i2_at_29 (Or.inl rfl) ⟨Nat.le_refl _, Nat.le_refl _⟩ ?_
  exact ⟨rfl, rfl, rfl, rfl⟩
theorem l2_conforms {d n0 : Nat} {Q : PQ} {I : IE} {F : FE} {e s : Int} {p N : Nat} (hd : 1 ≤ d) (he : 0 ≤ e ∧ e < 16) (hs : s = 1 ∨ s = -1) (hn : 0 ≤ I 42 3 ∧ I 42 3 ≤ 4) (hE : ∀ j, -100 ≤ F 43 j ∧ F 43 j ≤ 100) (hp : shX[p]? = some (.inl N)) (hN : 4 ≤ N) (hv : ∀ j, 0 ≤ j ∧ j < 4 → -100 ≤ F p j ∧ F p j ≤ 100)
    (K1 : ∀ x, (∀ i, 0 ≤ i ∧ i < I 42 3 → c1 (s * en F e i) (F p i)) → WS m2_conforms d 0 0 n0 Q 0 0 56 [lr 42, li e, li s, lr p, li (I 42 3), x] [] shX I F)
    (K0 : ∀ x y, (¬ ∀ i, 0 ≤ i ∧ i < I 42 3 → c1 (s * en F e i) (F p i)) → WS m2_conforms d 0 0 n0 Q 0 0 48 [lr 42, li e, li s, lr p, x, y] [] shX I F) :
    ∀ (m k : Nat) (x : Option AV), (k + m : Int) = I 42 3 → (∀ i, 0 ≤ i ∧ i < (k : Int) → c1 (s * en F e i) (F p i)) → WS m2_conforms d 0 0 n0 Q 0 0 3 [lr 42, li e, li s, lr p, li k, x] [] shX I F := by
  intro m
  induction m with
  | zero =>
    intro k x hk hP
    have ek : (k : Int) = I 42 3 := by omega
    rw [ek] at hP ⊢
    refine w_iload i2_conforms_3 rfl ?_
    refine w_aload i2_conforms_5 rfl ?_
    refine w_get i2_conforms_6 rfl rfl ?_
    refine w_icmpge i2_conforms_9 (fun h9 => ?_) (fun h_ => absurd h_ (by omega))
    exact K1 x hP
  | succ m ih =>
    intro k x hk hP
    have hb : -100 ≤ s * en F e k ∧ s * en F e k ≤ 100 := by
      have := hE (e * 4 + k)
      unfold en
      rcases hs with rfl | rfl <;> omega
    have hb2 := hv k (by omega)
    have hb3 := mulr (a := s * en F e k) (b := F p k) (by omega) (by omega)
    refine w_iload i2_conforms_3 rfl ?_
    refine w_aload i2_conforms_5 rfl ?_
    refine w_get i2_conforms_6 rfl rfl ?_
    refine w_icmpge i2_conforms_9 (fun h_ => absurd h_ (by omega)) (fun h9 => ?_)
    refine w_iload i2_conforms_12 rfl ?_
    refine w_aload i2_conforms_13 rfl ?_
    refine w_iload i2_conforms_14 rfl ?_
    refine w_iload i2_conforms_15 rfl ?_
    refine w_cVR i2_conforms_17 f2_at v2_at (s2_at he (by omega)) rfl rfl (by decide) rfl rfl (Nat.le_of_ble_eq_true rfl) (by omega) ?_
    refine w_imul i2_conforms_20 (by omega) ?_
    refine w_is5 i2_conforms_21 ?_
    refine w_iload i2_conforms_23 rfl ?_
    refine w_aload i2_conforms_25 rfl ?_
    refine w_iload i2_conforms_26 rfl ?_
    refine w_iald i2_conforms_28 hp (by omega) ?_
    refine w_imul i2_conforms_29 (by omega) ?_
    refine w_iflt i2_conforms_30 (fun h30 => ?_) (fun h30 => ?_)
    · refine K0 _ _ (fun h => ?_)
      have := c1_iff.mp (h k (by omega))
      first | omega | exact absurd this.2 (by omega)
    · refine w_iload i2_conforms_33 rfl ?_
      refine w_mabs i2_conforms_35 (by omega) (by omega) ⟨Nat.le_refl _, Nat.le_refl _⟩ (Nat.le_of_ble_eq_true rfl) ?_
      refine w_aload i2_conforms_38 rfl ?_
      refine w_iload i2_conforms_39 rfl ?_
      refine w_iald i2_conforms_41 hp (by omega) ?_
      refine w_mabs i2_conforms_42 (by omega) (by omega) ⟨Nat.le_refl _, Nat.le_refl _⟩ (Nat.le_of_ble_eq_true rfl) ?_
      refine w_icmple i2_conforms_45 (fun h45 => ?_) (fun h45 => ?_)
      · refine w_ii4 i2_conforms_50 (by omega) ?_
        refine w_goto i2_conforms_53 ?_
        refine ih (k + 1) _ (by omega) (fun i hi => ?_)
        by_cases hik : i = k
        · subst hik; exact c1_iff.mpr ⟨h30, h45⟩
        · exact hP i (by omega)
      · refine K0 _ _ (fun h => ?_)
        have := c1_iff.mp (h k (by omega))
        first | omega | exact absurd this.2 (by omega)
theorem s2_conforms {d : Nat} {I : IE} {F : FE} {e s : Int} {p N : Nat} (hd : 1 ≤ d) (he : 0 ≤ e ∧ e < 16) (hs : s = 1 ∨ s = -1) (hn : 0 ≤ I 42 3 ∧ I 42 3 ≤ 4) (hE : ∀ j, -100 ≤ F 43 j ∧ F 43 j ≤ 100) (hp : shX[p]? = some (.inl N)) (hN : 4 ≤ N) (hv : ∀ j, 0 ≤ j ∧ j < 4 → -100 ≤ F p j ∧ F p j ≤ 100) :
    MP m2_conforms d shX [rv 42, iv e, iv s, rv p] I F (tf (∀ i, 0 ≤ i ∧ i < I 42 3 → c1 (s * en F e i) (F p i))) := by
  refine MS_of (ls := [lr 42, li e, li s, lr p, lu, lu]) f2_conforms rfl rfl (Nat.le_of_ble_eq_true rfl) ?_
  refine w_const i2_conforms_0 ?_
  refine w_is4 i2_conforms_1 ?_
  refine l2_conforms hd he hs hn hE hp hN hv (fun x h => ?_) (fun x y h => ?_) (I 42 3).toNat 0 lu (by omega) (fun i hi => absurd hi (by omega))
  · refine w_const i2_conforms_56 ?_
    refine w_iret i2_conforms_57 (Or.inr ⟨rfl, by omega⟩) ⟨Nat.le_refl _, Nat.le_refl _⟩ ?_
    exact ⟨rfl, _, rfl, Or.inl ⟨rfl, h⟩, rfl, rfl⟩
  · refine w_const i2_conforms_48 ?_
    refine w_iret i2_conforms_49 (Or.inr ⟨rfl, by omega⟩) ⟨Nat.le_refl _, Nat.le_refl _⟩ ?_
    exact ⟨rfl, _, rfl, Or.inr ⟨rfl, h⟩, rfl, rfl⟩
/-- a set of places as bits -/
def spb (f : Int → Int) (k : Nat) (b : Nat) : Prop := b < 16 ∧ ∀ i : Nat, b.testBit i = decide (i < k ∧ f i ≠ 0)
/-- the places of f are among g's, and not all -/
def zsub (f g : Int → Int) (n : Int) : Prop := (∀ i, 0 ≤ i ∧ i < n → f i ≠ 0 → g i ≠ 0) ∧ ∃ i, 0 ≤ i ∧ i < n ∧ g i ≠ 0 ∧ f i = 0
theorem spb_sub {f g : Int → Int} {n : Int} {a b : Nat} (hn : 0 ≤ n) (ha : spb f n.toNat a) (hb : spb g n.toNat b) : (a ≠ b ∧ a &&& b = a) ↔ zsub f g n := by
  constructor
  · intro ⟨h1, h2⟩
    have key : ∀ i : Nat, a.testBit i = true → b.testBit i = true := fun i h => by
      rw [← h2, Nat.testBit_and, Bool.and_eq_true] at h
      exact h.2
    refine ⟨fun i hi hf => ?_, ?_⟩
    · have h3 := key i.toNat (by rw [ha.2]; simp only [decide_eq_true_eq]; exact ⟨by omega, by rw [show ((i.toNat : Nat) : Int) = i by omega]; exact hf⟩)
      rw [hb.2] at h3
      simp only [decide_eq_true_eq] at h3
      rw [show ((i.toNat : Nat) : Int) = i by omega] at h3
      exact h3.2
    · apply Classical.byContradiction
      intro hno
      apply h1
      apply Nat.eq_of_testBit_eq
      intro i
      cases hbi : b.testBit i with
      | false =>
        cases hai : a.testBit i with
        | false => rfl
        | true => rw [key i hai] at hbi; cases hbi
      | true =>
        rw [hb.2] at hbi
        simp only [decide_eq_true_eq] at hbi
        rw [ha.2]
        simp only [decide_eq_true_eq]
        refine ⟨hbi.1, fun h0 => hno ⟨i, by omega, by omega, hbi.2, h0⟩⟩
  · intro ⟨h1, i, hi0, hin, hgi, hfi⟩
    refine ⟨fun hab => ?_, ?_⟩
    · have h2 : b.testBit i.toNat = true := by rw [hb.2]; simp only [decide_eq_true_eq]; exact ⟨by omega, by rw [show ((i.toNat : Nat) : Int) = i by omega]; exact hgi⟩
      rw [← hab, ha.2] at h2
      simp only [decide_eq_true_eq] at h2
      rw [show ((i.toNat : Nat) : Int) = i by omega] at h2
      exact h2.2 hfi
    · apply Nat.eq_of_testBit_eq
      intro j
      rw [Nat.testBit_and]
      cases haj : a.testBit j with
      | false => rfl
      | true =>
        rw [ha.2] at haj
        simp only [decide_eq_true_eq] at haj
        rw [hb.2]
        simp only [Bool.true_and, decide_eq_true_eq]
        exact ⟨haj.1, h1 j (by omega) haj.2⟩
theorem l2_copyPart {d n0 : Nat} {Q : PQ} {I : IE} {F : FE} {e s : Int} (hd : 1 ≤ d) (he : 0 ≤ e ∧ e < 16) (hs : s = 1 ∨ s = -1) (hn : 0 ≤ I 42 3 ∧ I 42 3 ≤ 4) (hE : ∀ j, -100 ≤ F 43 j ∧ F 43 j ≤ 100)
    (K : ∀ F', (∀ i, 0 ≤ i ∧ i < I 42 3 → F' 61 i = if 0 ≤ s * en F e i then s * en F e i else 0) → (∀ i, I 42 3 ≤ i → F' 61 i = F 61 i) → (∀ a, a ≠ 61 → F' a = F a) → WS m2_copyPart d 0 0 n0 Q 0 0 35 [lr 42, li e, li s, lr 61, li (I 42 3)] [] shX I F') :
    ∀ (m k : Nat) (F' : FE), (k + m : Int) = I 42 3 → (∀ i, 0 ≤ i ∧ i < (k : Int) → F' 61 i = if 0 ≤ s * en F e i then s * en F e i else 0) → (∀ i, (k : Int) ≤ i → F' 61 i = F 61 i) → (∀ a, a ≠ 61 → F' a = F a) → WS m2_copyPart d 0 0 n0 Q 0 0 3 [lr 42, li e, li s, lr 61, li k] [] shX I F' := by
  intro m
  induction m with
  | zero =>
    intro k F' hk h1 h2 h3
    have ek : (k : Int) = I 42 3 := by omega
    rw [ek] at h1 h2 ⊢
    refine w_iload i2_copyPart_3 rfl ?_
    refine w_aload i2_copyPart_5 rfl ?_
    refine w_get i2_copyPart_6 rfl rfl ?_
    refine w_icmpge i2_copyPart_9 (fun h9 => ?_) (fun h_ => absurd h_ (by omega))
    exact K F' h1 h2 h3
  | succ m ih =>
    intro k F' hk h1 h2 h3
    have hen : en F' e k = en F e k := by unfold en; rw [h3 43 (by decide)]
    have hb : -100 ≤ s * en F e k ∧ s * en F e k ≤ 100 := by
      have := hE (e * 4 + k)
      unfold en
      rcases hs with rfl | rfl <;> omega
    refine w_iload i2_copyPart_3 rfl ?_
    refine w_aload i2_copyPart_5 rfl ?_
    refine w_get i2_copyPart_6 rfl rfl ?_
    refine w_icmpge i2_copyPart_9 (fun h_ => absurd h_ (by omega)) (fun h9 => ?_)
    refine w_aload i2_copyPart_12 rfl ?_
    refine w_iload i2_copyPart_13 rfl ?_
    refine w_iload i2_copyPart_15 rfl ?_
    refine w_aload i2_copyPart_16 rfl ?_
    refine w_iload i2_copyPart_17 rfl ?_
    refine w_iload i2_copyPart_18 rfl ?_
    refine w_cVR i2_copyPart_20 f2_at v2_at (s2_at he (by omega)) rfl rfl (by decide) rfl rfl (Nat.le_of_ble_eq_true rfl) (by omega) ?_
    rw [hen]
    refine w_imul i2_copyPart_23 (by omega) ?_
    refine w_const i2_copyPart_24 ?_
    refine w_mmax i2_copyPart_25 (by omega) ⟨Nat.le_refl _, Nat.le_refl _⟩ (Nat.le_of_ble_eq_true rfl) ?_
    refine w_iast i2_copyPart_28 rfl (by omega) ?_
    refine w_ii4 i2_copyPart_29 (by omega) ?_
    refine w_goto i2_copyPart_32 ?_
    refine ih (k + 1) _ (by omega) (fun i hi => ?_) (fun i hi => ?_) (fun a ha => ?_)
    · simp only [upF, true_and]
      by_cases hik : i = k
      · subst hik
        rw [if_pos rfl]
        (repeat' split) <;> omega
      · rw [if_neg hik]; exact h1 i (by omega)
    · simp only [upF, true_and]
      rw [if_neg (by omega)]; exact h2 i (by omega)
    · funext i
      simp only [upF, ha, false_and, if_false]
      rw [h3 a ha]
theorem s2_copyPart {d : Nat} {I : IE} {F : FE} {e s : Int} (hd : 1 ≤ d) (he : 0 ≤ e ∧ e < 16) (hs : s = 1 ∨ s = -1) (hn : 0 ≤ I 42 3 ∧ I 42 3 ≤ 4) (hE : ∀ j, -100 ≤ F 43 j ∧ F 43 j ≤ 100) :
    MU m2_copyPart d shX [rv 42, iv e, iv s, rv 61] I F (fun I' F' => I' = I ∧ (∀ i, 0 ≤ i ∧ i < I 42 3 → F' 61 i = if 0 ≤ s * en F e i then s * en F e i else 0) ∧ (∀ i, I 42 3 ≤ i → F' 61 i = F 61 i) ∧ (∀ a, a ≠ 61 → F' a = F a)) := by
  refine MS_of (ls := [lr 42, li e, li s, lr 61, lu]) f2_copyPart rfl rfl (Nat.le_of_ble_eq_true rfl) ?_
  refine w_const i2_copyPart_0 ?_
  refine w_is4 i2_copyPart_1 ?_
  refine l2_copyPart (F := F) hd he hs hn hE (fun F' h1 h2 h3 => ?_) (I 42 3).toNat 0 _ (by omega) (fun i hi => absurd hi (by omega)) (fun _ _ => rfl) (fun _ _ => rfl)
  refine w_vret i2_copyPart_35 rfl ⟨Nat.le_refl _, Nat.le_refl _⟩ ?_
  exact ⟨rfl, rfl, rfl, h1, h2, h3⟩
