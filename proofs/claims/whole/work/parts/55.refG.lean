theorem lr_sg {d n0 : Nat} {Q : PQ} {I : IE} {F : FE} {e s : Int} {u : Int → Int} (he : 0 ≤ e ∧ e < 160) (hs : s = 1 ∨ s = -1) (hu : ∀ j, 0 ≤ j ∧ j < 4 → F 4 (4 * e + j) = u j ∧ -100 ≤ u j ∧ u j ≤ 100)
    (K : ∀ x F', (∀ j, 0 ≤ j ∧ j < 4 → F' 10 j = if 0 ≤ s * u j then s * u j else 0) → (∀ a, a ≠ 10 → F' a = F a) → WS m8_setGoal d 0 0 n0 Q 0 0 44 [lr 0, li e, li s, li 4, x] [] shM I F') :
    ∀ (m k : Nat) (x : Option AV) (F' : FE), k + m = 4 → (∀ j, 0 ≤ j ∧ j < (k : Int) → F' 10 j = if 0 ≤ s * u j then s * u j else 0) → (∀ a, a ≠ 10 → F' a = F a) → WS m8_setGoal d 0 0 n0 Q 0 0 2 [lr 0, li e, li s, li k, x] [] shM I F' := by
  intro m
  induction m with
  | zero =>
    intro k x F' hk h1 h2
    obtain rfl : k = 4 := by omega
    refine w_iload i8_setGoal_2 rfl ?_
    refine w_const i8_setGoal_3 ?_
    refine w_icmpge i8_setGoal_4 (fun h4 => ?_) (fun h_ => absurd h_ (by omega))
    exact K _ F' h1 h2
  | succ m ih =>
    intro k x F' hk h1 h2
    obtain ⟨u1, u2⟩ := hu k (by omega)
    have e4 : F' 4 = F 4 := h2 4 (by decide)
    have su : -100 ≤ s * u k ∧ s * u k ≤ 100 := by rcases hs with rfl | rfl <;> omega
    have step : ∀ (x : Option AV) v, v = (if 0 ≤ s * u k then s * u k else 0) → WS m8_setGoal d 0 0 n0 Q 0 0 2 [lr 0, li e, li s, li ((k : Int) + 1), x] [] shM I (upF F' 10 (k : Int) v) := fun x v hv => by
      refine ih (k + 1) x _ (by omega) (fun j hj => ?_) (fun a ha => ?_)
      · simp only [upF, true_and]
        by_cases c : j = k
        · rw [if_pos c, c]; exact hv
        · rw [if_neg c]; exact h1 j (by omega)
      · funext j
        simp only [upF, ha, false_and, if_false]
        rw [h2 a ha]
    refine w_iload i8_setGoal_2 rfl ?_
    refine w_const i8_setGoal_3 ?_
    refine w_icmpge i8_setGoal_4 (fun h_ => absurd h_ (by omega)) (fun h4 => ?_)
    refine w_iload i8_setGoal_7 rfl ?_
    refine w_aload i8_setGoal_8 rfl ?_
    refine w_getr i8_setGoal_9 rfl rfl ?_
    refine w_const i8_setGoal_12 ?_
    refine w_iload i8_setGoal_13 rfl ?_
    refine w_imul i8_setGoal_14 (by omega) ?_
    refine w_iload i8_setGoal_15 rfl ?_
    refine w_iadd i8_setGoal_16 (by omega) ?_
    refine w_iald i8_setGoal_17 rfl (by omega) ?_
    rw [e4, u1]
    refine w_imul i8_setGoal_18 (by omega) ?_
    refine w_is4 i8_setGoal_19 ?_
    refine w_aload i8_setGoal_21 rfl ?_
    refine w_getr i8_setGoal_22 rfl rfl ?_
    refine w_iload i8_setGoal_25 rfl ?_
    refine w_iload i8_setGoal_26 rfl ?_
    refine w_ifle i8_setGoal_28 (fun h28 => ?_) (fun h28 => ?_)
    · refine w_const i8_setGoal_36 ?_
      refine w_iast i8_setGoal_37 rfl (by omega) ?_
      refine w_ii3 i8_setGoal_38 (by omega) ?_
      refine w_goto i8_setGoal_41 ?_
      first
      | (have hp : 0 < s * u k := by assumption
         refine step _ _ ?_
         rw [if_pos (by omega)])
      | (refine step _ 0 ?_
         split <;> omega)
    · refine w_iload i8_setGoal_31 rfl ?_
      refine w_goto i8_setGoal_33 ?_
      refine w_iast i8_setGoal_37 rfl (by omega) ?_
      refine w_ii3 i8_setGoal_38 (by omega) ?_
      refine w_goto i8_setGoal_41 ?_
      first
      | (have hp : 0 < s * u k := by assumption
         refine step _ _ ?_
         rw [if_pos (by omega)])
      | (refine step _ 0 ?_
         split <;> omega)
theorem r_setGoal {d : Nat} {I : IE} {F : FE} {e s : Int} {u : Int → Int} (he : 0 ≤ e ∧ e < 160) (hs : s = 1 ∨ s = -1) (hu : ∀ j, 0 ≤ j ∧ j < 4 → F 4 (4 * e + j) = u j ∧ -100 ≤ u j ∧ u j ≤ 100) : MU m8_setGoal d shM [rv 0, iv e, iv s] I F (fun I' F' => I' = I ∧ (∀ j, 0 ≤ j ∧ j < 4 → F' 10 j = if 0 ≤ s * u j then s * u j else 0) ∧ ∀ a, a ≠ 10 → F' a = F a) := by
  refine MS_of (ls := [lr 0, li e, li s, lu, lu]) f8_setGoal rfl rfl (Nat.le_of_ble_eq_true rfl) ?_
  refine w_const i8_setGoal_0 ?_
  refine w_is3 i8_setGoal_1 ?_
  refine lr_sg (F := F) he hs hu (fun x F' h1 h2 => ?_) 4 0 _ F (by omega) (fun j hj => absurd hj (by omega)) (fun _ _ => rfl)
  refine w_vret i8_setGoal_44 rfl ⟨Nat.le_refl _, Nat.le_refl _⟩ ?_
  exact ⟨rfl, rfl, rfl, h1, h2⟩
theorem lr_sgp {d n0 : Nat} {Q : PQ} {I : IE} {F : FE}
    (K : ∀ F', (∀ j, 0 ≤ j ∧ j < 4 → F' 10 j = F 1 (14 + j)) → (∀ a, a ≠ 10 → F' a = F a) → WS m8_setGoalToPoint d 0 0 n0 Q 0 0 28 [lr 0, li 4] [] shM I F') :
    ∀ (m k : Nat) (F' : FE), k + m = 4 → (∀ j, 0 ≤ j ∧ j < (k : Int) → F' 10 j = F 1 (14 + j)) → (∀ a, a ≠ 10 → F' a = F a) → WS m8_setGoalToPoint d 0 0 n0 Q 0 0 2 [lr 0, li k] [] shM I F' := by
  intro m
  induction m with
  | zero =>
    intro k F' hk h1 h2
    obtain rfl : k = 4 := by omega
    refine w_iload i8_setGoalToPoint_2 rfl ?_
    refine w_const i8_setGoalToPoint_3 ?_
    refine w_icmpge i8_setGoalToPoint_4 (fun h4 => ?_) (fun h_ => absurd h_ (by omega))
    exact K F' h1 h2
  | succ m ih =>
    intro k F' hk h1 h2
    have e1 : F' 1 = F 1 := h2 1 (by decide)
    refine w_iload i8_setGoalToPoint_2 rfl ?_
    refine w_const i8_setGoalToPoint_3 ?_
    refine w_icmpge i8_setGoalToPoint_4 (fun h_ => absurd h_ (by omega)) (fun h4 => ?_)
    refine w_aload i8_setGoalToPoint_7 rfl ?_
    refine w_getr i8_setGoalToPoint_8 rfl rfl ?_
    refine w_iload i8_setGoalToPoint_11 rfl ?_
    refine w_aload i8_setGoalToPoint_12 rfl ?_
    refine w_getr i8_setGoalToPoint_13 rfl rfl ?_
    refine w_const i8_setGoalToPoint_16 ?_
    refine w_iload i8_setGoalToPoint_18 rfl ?_
    refine w_iadd i8_setGoalToPoint_19 (by omega) ?_
    refine w_iald i8_setGoalToPoint_20 rfl (by omega) ?_
    refine w_iast i8_setGoalToPoint_21 rfl (by omega) ?_
    refine w_ii1 i8_setGoalToPoint_22 (by omega) ?_
    refine w_goto i8_setGoalToPoint_25 ?_
    refine ih (k + 1) _ (by omega) (fun j hj => ?_) (fun a ha => ?_)
    · simp only [upF, true_and]
      by_cases c : j = k
      · rw [if_pos c, c, e1]
      · rw [if_neg c]; exact h1 j (by omega)
    · funext j
      simp only [upF, ha, false_and, if_false]
      rw [h2 a ha]
theorem r_setGoalToPoint {d : Nat} {I : IE} {F : FE} : MU m8_setGoalToPoint d shM [rv 0] I F (fun I' F' => I' = I ∧ (∀ j, 0 ≤ j ∧ j < 4 → F' 10 j = F 1 (14 + j)) ∧ ∀ a, a ≠ 10 → F' a = F a) := by
  refine MS_of (ls := [lr 0, lu]) f8_setGoalToPoint rfl rfl (Nat.le_of_ble_eq_true rfl) ?_
  refine w_const i8_setGoalToPoint_0 ?_
  refine w_is1 i8_setGoalToPoint_1 ?_
  refine lr_sgp (F := F) (fun F' h1 h2 => ?_) 4 0 F (by omega) (fun j hj => absurd hj (by omega)) (fun _ _ => rfl)
  refine w_vret i8_setGoalToPoint_28 rfl ⟨Nat.le_refl _, Nat.le_refl _⟩ ?_
  exact ⟨rfl, rfl, rfl, h1, h2⟩
theorem lr_af {d n0 : Nat} {Q : PQ} {I : IE} {F : FE} {n : Int} (hn : F 1 1 = n) (h4 : 0 ≤ n ∧ n ≤ 4) (hm : 0 ≤ I 0 14 ∧ I 0 14 < 2100)
    (K : ∀ F', (∀ j, 0 ≤ j ∧ j < 4 → F' 9 (4 * I 0 14 + j) = if j < n then F 11 j else 0) → (∀ i, i < 4 * I 0 14 → F' 9 i = F 9 i) → (∀ a, a ≠ 9 → F' a = F a) → WS m8_addFiber d 0 0 n0 Q 0 0 56 [lr 0, li 4] [] shM I F') :
    ∀ (m k : Nat) (F' : FE), k + m = 4 → (∀ j, 0 ≤ j ∧ j < (k : Int) → F' 9 (4 * I 0 14 + j) = if j < n then F 11 j else 0) → (∀ i, i < 4 * I 0 14 → F' 9 i = F 9 i) → (∀ a, a ≠ 9 → F' a = F a) → WS m8_addFiber d 0 0 n0 Q 0 0 12 [lr 0, li k] [] shM I F' := by
  intro m
  induction m with
  | zero =>
    intro k F' hk h1 h2 h3
    obtain rfl : k = 4 := by omega
    refine w_iload i8_addFiber_12 rfl ?_
    refine w_const i8_addFiber_13 ?_
    refine w_icmpge i8_addFiber_14 (fun h14 => ?_) (fun h_ => absurd h_ (by omega))
    exact K F' h1 h2 h3
  | succ m ih =>
    intro k F' hk h1 h2 h3
    have e11 : F' 11 = F 11 := h3 11 (by decide)
    have e1 : F' 1 1 = n := by rw [h3 1 (by decide)]; exact hn
    have step : ∀ v, v = (if (k : Int) < n then F 11 k else 0) → WS m8_addFiber d 0 0 n0 Q 0 0 12 [lr 0, li ((k : Int) + 1)] [] shM I (upF F' 9 (4 * I 0 14 + (k : Int)) v) := fun v hv => by
      refine ih (k + 1) _ (by omega) (fun j hj => ?_) (fun i hi => ?_) (fun a ha => ?_)
      · simp only [upF, true_and]
        by_cases c : j = k
        · rw [if_pos (by omega), c]; exact hv
        · rw [if_neg (by omega)]; exact h1 j (by omega)
      · simp only [upF, true_and]
        rw [if_neg (by omega)]; exact h2 i hi
      · funext i
        simp only [upF, ha, false_and, if_false]
        rw [h3 a ha]
    refine w_iload i8_addFiber_12 rfl ?_
    refine w_const i8_addFiber_13 ?_
    refine w_icmpge i8_addFiber_14 (fun h_ => absurd h_ (by omega)) (fun h14 => ?_)
    refine w_aload i8_addFiber_17 rfl ?_
    refine w_getr i8_addFiber_18 rfl rfl ?_
    refine w_const i8_addFiber_21 ?_
    refine w_aload i8_addFiber_22 rfl ?_
    refine w_get i8_addFiber_23 rfl rfl ?_
    refine w_imul i8_addFiber_26 (by omega) ?_
    refine w_iload i8_addFiber_27 rfl ?_
    refine w_iadd i8_addFiber_28 (by omega) ?_
    refine w_iload i8_addFiber_29 rfl ?_
    refine w_aload i8_addFiber_30 rfl ?_
    refine w_getr i8_addFiber_31 rfl rfl ?_
    refine w_const i8_addFiber_34 ?_
    refine w_iald i8_addFiber_35 rfl (by omega) ?_
    rw [e1]
    refine w_icmpge i8_addFiber_36 (fun h36 => ?_) (fun h36 => ?_)
    · refine w_const i8_addFiber_48 ?_
      refine w_iast i8_addFiber_49 rfl (by omega) ?_
      refine w_ii1 i8_addFiber_50 (by omega) ?_
      refine w_goto i8_addFiber_53 ?_
      first
      | (have hlt : (k : Int) < n := by assumption
         refine step _ ?_
         rw [if_pos hlt, e11])
      | (refine step 0 ?_
         rw [if_neg (by omega)])
    · refine w_aload i8_addFiber_39 rfl ?_
      refine w_getr i8_addFiber_40 rfl rfl ?_
      refine w_iload i8_addFiber_43 rfl ?_
      refine w_iald i8_addFiber_44 rfl (by omega) ?_
      refine w_goto i8_addFiber_45 ?_
      refine w_iast i8_addFiber_49 rfl (by omega) ?_
      refine w_ii1 i8_addFiber_50 (by omega) ?_
      refine w_goto i8_addFiber_53 ?_
      first
      | (have hlt : (k : Int) < n := by assumption
         refine step _ ?_
         rw [if_pos hlt, e11])
      | (refine step 0 ?_
         rw [if_neg (by omega)])
theorem r_addFiber {d : Nat} {I : IE} {F : FE} {n : Int} (hn : F 1 1 = n) (h4 : 0 ≤ n ∧ n ≤ 4) (hm : 0 ≤ I 0 14 ∧ I 0 14 < 2100) : MU m8_addFiber d shM [rv 0] I F (fun I' F' => I' = upI I 0 14 (I 0 14 + 1) ∧ (∀ j, 0 ≤ j ∧ j < 4 → F' 9 (4 * I 0 14 + j) = if j < n then F 11 j else 0) ∧ (∀ i, i < 4 * I 0 14 → F' 9 i = F 9 i) ∧ (∀ a, a ≠ 9 → F' a = F a)) := by
  refine MS_of (ls := [lr 0, lu]) f8_addFiber rfl rfl (Nat.le_of_ble_eq_true rfl) ?_
  refine w_aload i8_addFiber_0 rfl ?_
  refine w_get i8_addFiber_1 rfl rfl ?_
  refine w_const i8_addFiber_4 ?_
  refine w_icmpge i8_addFiber_7 (fun h_ => absurd h_ (by omega)) (fun h7 => ?_)
  refine w_const i8_addFiber_10 ?_
  refine w_is1 i8_addFiber_11 ?_
  refine lr_af hn h4 hm (fun F' h1 h2 h3 => ?_) 4 0 F (by omega) (fun j hj => absurd hj (by omega)) (fun _ _ => rfl) (fun _ _ => rfl)
  refine w_aload i8_addFiber_56 rfl ?_
  refine w_dup i8_addFiber_57 ?_
  refine w_get i8_addFiber_58 rfl rfl ?_
  refine w_const i8_addFiber_61 ?_
  refine w_iadd i8_addFiber_62 (by omega) ?_
  refine w_put i8_addFiber_63 rfl rfl (Or.inl rfl) ?_
  refine w_vret i8_addFiber_66 rfl ⟨Nat.le_refl _, Nat.le_refl _⟩ ?_
  exact ⟨rfl, rfl, rfl, h1, h2, h3⟩
/-- row i of the fiber -/
def fr (F : FE) (i : Int) : Int → Int := fun j => F 9 (4 * i + j)
def P7 (k : Nat) : Int := (128 : Int) ^ (3 - k)
theorem P7_pos (k : Nat) : 0 < P7 k := Int.pow_pos (by decide)
theorem P7_s {k : Nat} (hk : k < 3) : P7 k = 128 * P7 (k + 1) := by
  unfold P7
  rw [show 3 - k = 3 - (k + 1) + 1 by omega, Int.pow_succ, Int.mul_comm]
/-- falls with every turn -/
def mu (Y : Int → Int) : Nat → Int
  | 0 => (110 - Y 0) * P7 0
  | k + 1 => mu Y k + (110 - Y ((k + 1 : Nat) : Int)) * P7 (k + 1)
theorem mu_ext {Y Z : Int → Int} : ∀ k : Nat, (∀ j : Int, 0 ≤ j ∧ j < (k : Int) + 1 → Y j = Z j) → mu Y k = mu Z k
  | 0, h => by simp only [mu]; rw [h 0 (by omega)]
  | k + 1, h => by
    simp only [mu]
    rw [mu_ext k (fun j hj => h j (by omega)), h _ (by omega)]
theorem mu_0 {Y : Int → Int} : ∀ k : Nat, (∀ j : Int, 0 ≤ j ∧ j < (k : Int) + 1 → Y j ≤ 110) → 0 ≤ mu Y k
  | 0, h => Int.mul_nonneg (by have := h 0 (by omega); omega) (Int.le_of_lt (P7_pos 0))
  | k + 1, h => by
    have h1 := mu_0 k (fun j hj => h j (by omega))
    have h2 := Int.mul_nonneg (show 0 ≤ 110 - Y ((k + 1 : Nat) : Int) by have := h ((k + 1 : Nat) : Int) (by omega); omega) (Int.le_of_lt (P7_pos (k + 1)))
    simp only [mu]
    omega
theorem mu_inc {Y Y' : Int → Int} {k : Nat} (e : ∀ j : Int, 0 ≤ j ∧ j < k → Y' j = Y j) (ek : Y' k = Y k + 1) : mu Y' k < mu Y k := by
  have p := P7_pos k
  cases k with
  | zero =>
    have ek' : Y' 0 = Y 0 + 1 := ek
    simp only [mu]
    rw [ek', show 110 - Y 0 = (110 - (Y 0 + 1)) + 1 by omega, Int.add_mul]
    omega
  | succ k =>
    simp only [mu]
    rw [mu_ext k (fun j hj => e j (by omega)), ek, show 110 - Y ((k + 1 : Nat) : Int) = (110 - (Y ((k + 1 : Nat) : Int) + 1)) + 1 by omega, Int.add_mul]
    omega
theorem mu_push {Y Y' : Int → Int} {k : Nat} (hk : k < 3) (e : ∀ j : Int, 0 ≤ j ∧ j < k → Y' j = Y j) (ek : Y' k = Y k + 1) (ek2 : Y' ((k + 1 : Nat) : Int) = -1) : mu Y' (k + 1) < mu Y k := by
  have p := P7_pos (k + 1)
  have p2 := P7_s hk
  have h1 : mu Y' k + P7 k = mu Y k := by
    cases k with
    | zero =>
      have ek' : Y' 0 = Y 0 + 1 := ek
      simp only [mu]
      rw [ek', show 110 - Y 0 = (110 - (Y 0 + 1)) + 1 by omega, Int.add_mul]
      omega
    | succ k =>
      simp only [mu]
      rw [mu_ext k (fun j hj => e j (by omega)), ek, show 110 - Y ((k + 1 : Nat) : Int) = (110 - (Y ((k + 1 : Nat) : Int) + 1)) + 1 by omega, Int.add_mul]
      omega
  show mu Y' k + (110 - Y' ((k + 1 : Nat) : Int)) * P7 (k + 1) < mu Y k
  rw [ek2]
  omega
/-- what the laying of a fiber changes -/
def Yfr (I I' : IE) (F F' : FE) : Prop := (∀ a k, (a ≠ 0 ∨ k ≠ 14) → I' a k = I a k) ∧ ∀ a, a ≠ 9 → a ≠ 11 → F' a = F a
