/-- what is left of a code behind i digits -/
def rst (w code : Int) : Nat → Int
  | 0 => code
  | i + 1 => rst w code i / w
theorem rst_b {w code B : Int} (hw : 1 ≤ w) (hc : 0 ≤ code ∧ code ≤ B) : ∀ i, 0 ≤ rst w code i ∧ rst w code i ≤ B
  | 0 => hc
  | i + 1 => by
    have h := rst_b hw hc i
    simp only [rst]
    have h1 := Int.ediv_nonneg h.1 (show 0 ≤ w by omega)
    have h2 := Int.ediv_le_self w h.1
    omega
theorem l2_sfc1 {d n0 : Nat} {Q : PQ} {I : IE} {F : FE} {a b : Int}
    (K : ∀ F', (∀ j, 0 ≤ j ∧ j < 4 → F' 45 j = 0) → (∀ j, ¬ (0 ≤ j ∧ j < 4) → F' 45 j = F 45 j) → (∀ p, p ≠ 45 → F' p = F p) → WS m2_setFreeColumns d 0 0 n0 Q 0 0 20 [lr 42, li a, li b, li 4, lu] [] shX I F') :
    ∀ (m k : Nat) (F' : FE), k + m = 4 → (∀ j, 0 ≤ j ∧ j < (k : Int) → F' 45 j = 0) → (∀ j, ¬ (0 ≤ j ∧ j < 4) → F' 45 j = F 45 j) → (∀ p, p ≠ 45 → F' p = F p) → WS m2_setFreeColumns d 0 0 n0 Q 0 0 2 [lr 42, li a, li b, li k, lu] [] shX I F' := by
  intro m
  induction m with
  | zero =>
    intro k F' hk h1 h2 h3
    obtain rfl : k = 4 := by omega
    refine w_iload i2_setFreeColumns_2 rfl ?_
    refine w_const i2_setFreeColumns_3 ?_
    refine w_icmpge i2_setFreeColumns_4 (fun h4 => ?_) (fun h_ => absurd h_ (by omega))
    exact K F' h1 h2 h3
  | succ m ih =>
    intro k F' hk h1 h2 h3
    refine w_iload i2_setFreeColumns_2 rfl ?_
    refine w_const i2_setFreeColumns_3 ?_
    refine w_icmpge i2_setFreeColumns_4 (fun h_ => absurd h_ (by omega)) (fun h4 => ?_)
    refine w_aload i2_setFreeColumns_7 rfl ?_
    refine w_getr i2_setFreeColumns_8 rfl rfl ?_
    refine w_iload i2_setFreeColumns_11 rfl ?_
    refine w_const i2_setFreeColumns_12 ?_
    refine w_iast i2_setFreeColumns_13 rfl (by omega) ?_
    refine w_ii3 i2_setFreeColumns_14 (by omega) ?_
    refine w_goto i2_setFreeColumns_17 ?_
    refine ih (k + 1) _ (by omega) (fun j hj => ?_) (fun j hj => ?_) (fun p hp => ?_)
    · simp only [upF, true_and]
      split
      · rfl
      · exact h1 j (by omega)
    · simp only [upF, true_and]
      rw [if_neg (by omega)]; exact h2 j hj
    · funext i
      simp only [upF, hp, false_and, if_false]
      rw [h3 p hp]
theorem l2_sfc2 {d n0 : Nat} {Q : PQ} {I : IE} {F : FE} {code w n p q : Int} {fc : Nat} (hf : Free (F 44) fc n p q) (hn : 0 ≤ n ∧ n ≤ 4) (hfc : fc ≤ 4) (hfc9 : I 42 9 = (fc : Int)) (hw : 2 ≤ w ∧ w ≤ 100) (hb : 0 ≤ I 42 4 ∧ I 42 4 ≤ 9) (hcode : 0 ≤ code ∧ code ≤ 1000000)
    (K : ∀ x y F', (∀ i : Nat, i < fc → F' 45 (F 44 i) = rst w code i % w - I 42 4) → (∀ j, 0 ≤ j ∧ j < 4 → (∀ i : Int, 0 ≤ i ∧ i < fc → F 44 i ≠ j) → F' 45 j = 0) → (∀ j, ¬ (0 ≤ j ∧ j < 4) → F' 45 j = F 45 j) → (∀ p, p ≠ 45 → F' p = F p) → WS m2_setFreeColumns d 0 0 n0 Q 0 0 64 [lr 42, li code, li w, x, y] [] shX I F') :
    ∀ (m k : Nat) (F' : FE), k + m = fc → (∀ i : Nat, i < k → F' 45 (F 44 i) = rst w code i % w - I 42 4) → (∀ j, 0 ≤ j ∧ j < 4 → (∀ i : Int, 0 ≤ i ∧ i < k → F 44 i ≠ j) → F' 45 j = 0) → (∀ j, ¬ (0 ≤ j ∧ j < 4) → F' 45 j = F 45 j) → (∀ p, p ≠ 45 → F' p = F p) → WS m2_setFreeColumns d 0 0 n0 Q 0 0 25 [lr 42, li code, li w, li (rst w code k), li k] [] shX I F' := by
  intro m
  induction m with
  | zero =>
    intro k F' hk h1 h2 h3 h4
    obtain rfl : k = fc := by omega
    refine w_iload i2_setFreeColumns_25 rfl ?_
    refine w_aload i2_setFreeColumns_27 rfl ?_
    refine w_get i2_setFreeColumns_28 rfl rfl ?_
    refine w_icmpge i2_setFreeColumns_31 (fun h31 => ?_) (fun h_ => absurd h_ (by omega))
    exact K _ _ F' h1 h2 h3 h4
  | succ m ih =>
    intro k F' hk h1 h2 h3 h4
    have hr := rst_b (w := w) (by omega) hcode k
    have hr1 := rst_b (w := w) (by omega) hcode (k + 1)
    have e44 : F' 44 = F 44 := h4 44 (by decide)
    have hfk := hf.1 k (by omega)
    have et : (rst w code k).tmod w = rst w code k % w := Int.tmod_eq_emod_of_nonneg hr.1
    have ed : (rst w code k).tdiv w = rst w code (k + 1) := Int.tdiv_eq_ediv_of_nonneg hr.1
    have hm1 := Int.emod_nonneg (rst w code k) (show w ≠ 0 by omega)
    have hm2 := Int.emod_lt_of_pos (rst w code k) (show 0 < w by omega)
    refine w_iload i2_setFreeColumns_25 rfl ?_
    refine w_aload i2_setFreeColumns_27 rfl ?_
    refine w_get i2_setFreeColumns_28 rfl rfl ?_
    refine w_icmpge i2_setFreeColumns_31 (fun h_ => absurd h_ (by omega)) (fun h31 => ?_)
    refine w_aload i2_setFreeColumns_34 rfl ?_
    refine w_getr i2_setFreeColumns_35 rfl rfl ?_
    refine w_aload i2_setFreeColumns_38 rfl ?_
    refine w_getr i2_setFreeColumns_39 rfl rfl ?_
    refine w_iload i2_setFreeColumns_42 rfl ?_
    refine w_iald i2_setFreeColumns_44 rfl (by omega) ?_
    rw [e44]
    refine w_iload i2_setFreeColumns_45 rfl ?_
    refine w_iload i2_setFreeColumns_46 rfl ?_
    refine w_irem i2_setFreeColumns_47 (by omega) ((by rw [et]; constructor <;> omega)) ?_
    rw [et]
    refine w_aload i2_setFreeColumns_48 rfl ?_
    refine w_get i2_setFreeColumns_49 rfl rfl ?_
    refine w_isub i2_setFreeColumns_52 (by omega) ?_
    refine w_iast i2_setFreeColumns_53 rfl (by omega) ?_
    refine w_iload i2_setFreeColumns_54 rfl ?_
    refine w_iload i2_setFreeColumns_55 rfl ?_
    refine w_idiv i2_setFreeColumns_56 (by omega) ((by rw [ed]; constructor <;> omega)) ?_
    rw [ed]
    refine w_is3 i2_setFreeColumns_57 ?_
    refine w_ii4 i2_setFreeColumns_58 (by omega) ?_
    refine w_goto i2_setFreeColumns_61 ?_
    refine ih (k + 1) _ (by omega) (fun i hi => ?_) (fun j hj hj2 => ?_) (fun j hj => ?_) (fun p hp => ?_)
    · simp only [upF, true_and]
      by_cases hik : i = k
      · subst hik; rw [if_pos rfl]
      · have := hf.2.1 i k (by omega)
        rw [if_neg (by omega)]; exact h1 i (by omega)
    · simp only [upF, true_and]
      have := hj2 k (by omega)
      rw [if_neg (fun z => this z.symm)]; exact h2 j hj (fun i hi => hj2 i (by omega))
    · simp only [upF, true_and]
      rw [if_neg (by omega)]; exact h3 j hj
    · funext i
      simp only [upF, hp, false_and, if_false]
      rw [h4 p hp]
theorem s2_setFreeColumns {d : Nat} {I : IE} {F : FE} {code w n p q : Int} {fc : Nat} (hf : Free (F 44) fc n p q) (hn : 0 ≤ n ∧ n ≤ 4) (hfc : fc ≤ 4) (hfc9 : I 42 9 = (fc : Int)) (hw : 2 ≤ w ∧ w ≤ 100) (hb : 0 ≤ I 42 4 ∧ I 42 4 ≤ 9) (hcode : 0 ≤ code ∧ code ≤ 1000000) :
    MU m2_setFreeColumns d shX [rv 42, iv code, iv w] I F (fun I' F' => I' = I ∧ (∀ i : Nat, i < fc → F' 45 (F 44 i) = rst w code i % w - I 42 4) ∧ (∀ j, 0 ≤ j ∧ j < 4 → (∀ i : Int, 0 ≤ i ∧ i < fc → F 44 i ≠ j) → F' 45 j = 0) ∧ (∀ p, p ≠ 45 → F' p = F p)) := by
  refine MS_of (ls := [lr 42, li code, li w, lu, lu]) f2_setFreeColumns rfl rfl (Nat.le_of_ble_eq_true rfl) ?_
  refine w_const i2_setFreeColumns_0 ?_
  refine w_is3 i2_setFreeColumns_1 ?_
  refine l2_sfc1 (F := F) (fun F1 h1 h2 h3 => ?_) 4 0 _ (by decide) (fun j hj => absurd hj (by omega)) (fun _ _ => rfl) (fun _ _ => rfl)
  have e44 : F1 44 = F 44 := h3 44 (by decide)
  refine w_iload i2_setFreeColumns_20 rfl ?_
  refine w_is3 i2_setFreeColumns_21 ?_
  refine w_const i2_setFreeColumns_22 ?_
  refine w_is4 i2_setFreeColumns_23 ?_
  refine l2_sfc2 (F := F1) (fc := fc) (by rw [e44]; exact hf) hn hfc hfc9 hw hb hcode (fun x y F2 g1 g2 g3 g4 => ?_) fc 0 _ (by omega) (fun i hi => absurd hi (by omega)) (fun j hj _ => h1 j hj) (fun _ _ => rfl) (fun _ _ => rfl)
  refine w_vret i2_setFreeColumns_64 rfl ⟨Nat.le_refl _, Nat.le_refl _⟩ ?_
  refine ⟨rfl, rfl, rfl, fun i hi => ?_, fun j hj hj2 => ?_, fun p hp => ?_⟩
  · rw [← e44]; exact g1 i hi
  · exact g2 j hj (by rw [e44]; exact hj2)
  · rw [g4 p hp, h3 p hp]
def KerF (M : Int → Int) (n : Int) (f : Int → Int) : Prop := dt M f 0 n.toNat = 0 ∧ dt M f 1 n.toNat = 0
theorem dt_upd {M f h : Int → Int} {r p : Int} : ∀ (k : Nat), (∀ j : Int, 0 ≤ j ∧ j < k → j ≠ p → h j = f j) → (0 ≤ p ∧ p < k) → dt M h r k = dt M f r k + M (r * 4 + p) * (h p - f p)
  | 0, _, hp => absurd hp (by omega)
  | k + 1, h1, hp => by
    simp only [dt]
    by_cases hk : p = k
    · subst hk
      rw [dt_ext k (fun j hj => h1 j (by omega) (by omega)), Int.mul_sub]
      omega
    · rw [dt_upd k (fun j hj => h1 j (by omega)) (by omega), h1 k (by omega) (by omega)]
      omega
/-- proportional rows -/
theorem dt_prop {M f : Int → Int} {r q p n : Int} (hr : (r = 0 ∧ q = 1) ∨ (r = 1 ∧ q = 0)) (hp : 0 ≤ p ∧ p < n) (hmin : ∀ a b, 0 ≤ a ∧ a < b ∧ b < n → mnr M a b = 0) : ∀ (k : Nat), (k : Int) ≤ n → M (r * 4 + p) * dt M f q k = M (q * 4 + p) * dt M f r k
  | 0, _ => by simp [dt]
  | k + 1, hk => by
    have ih := dt_prop (f := f) hr hp hmin k (by omega)
    have key : M (r * 4 + p) * M (q * 4 + k) = M (q * 4 + p) * M (r * 4 + k) := by
      have e : ∀ x : Int, (0 : Int) * 4 + x = x := fun x => by omega
      have e' : ∀ x : Int, (1 : Int) * 4 + x = 4 + x := fun x => by omega
      rcases Int.lt_trichotomy p k with h | h | h
      · have hm := hmin p k (by omega)
        unfold mnr at hm
        rcases hr with ⟨rfl, rfl⟩ | ⟨rfl, rfl⟩ <;> rw [e, e, e', e'] <;> grind
      · subst h; grind
      · have hm := hmin k p (by omega)
        unfold mnr at hm
        rcases hr with ⟨rfl, rfl⟩ | ⟨rfl, rfl⟩ <;> rw [e, e, e', e'] <;> grind
    simp only [dt]
    grind
theorem dt_b9 {M v : Int → Int} {r : Int} (hM : ∀ j, 0 ≤ M j ∧ M j ≤ 3) : ∀ (k : Nat), (∀ j : Int, 0 ≤ j ∧ j < k → -9 ≤ v j ∧ v j ≤ 9) → -(27 * (k : Int)) ≤ dt M v r k ∧ dt M v r k ≤ 27 * (k : Int)
  | 0, _ => by simp [dt]
  | k + 1, h => by
    have := dt_b9 (r := r) hM k (fun j hj => h j (by omega))
    have h2 := mulb (hM (r * 4 + k)) (B := 9) (h k (by omega))
    simp only [dt]
    omega
theorem tdiv_b {a b B : Int} (hb : b ≠ 0) (ha : -B ≤ a ∧ a ≤ B) : -B ≤ a.tdiv b ∧ a.tdiv b ≤ B := by
  have h := Int.natAbs_tdiv_le_natAbs a b
  omega
theorem tmod_b {a b B : Int} (ha : -B ≤ a ∧ a ≤ B) : -B ≤ a.tmod b ∧ a.tmod b ≤ B := by
  have h : (a.tmod b).natAbs ≤ a.natAbs := by rw [Int.natAbs_tmod]; exact Nat.mod_le _ _
  omega
theorem s2_solvePivots {d : Nat} {I : IE} {F : FE} (hd : 2 ≤ d) (hn : 0 ≤ I 1 1 ∧ I 1 1 ≤ 4) (hM : ∀ j, 0 ≤ F 2 j ∧ F 2 j ≤ 3) (hv : ∀ j, 0 ≤ j ∧ j < 4 → -9 ≤ F 45 j ∧ F 45 j ≤ 9) (hP : PVs (F 2) (I 1 1) I) (hz : ∀ j, 0 ≤ j ∧ j < 4 → (j = I 42 5 ∨ j = I 42 6) → F 45 j = 0) :
    MB m2_solvePivots d shX [rv 42, rv 1] I F (fun v I' F' => I' = I ∧ (∀ a, a ≠ 45 → F' a = F a) ∧ (∀ j, j ≠ I 42 5 → j ≠ I 42 6 → F' 45 j = F 45 j) ∧ (∀ j, 0 ≤ j ∧ j < 4 → -1000 ≤ F' 45 j ∧ F' 45 j ≤ 1000) ∧
      (v = 1 ∧ KerF (F 2) (I 1 1) (F' 45) ∨ v = 0 ∧ ∀ z : Int → Int, (∀ j, 0 ≤ j ∧ j < I 1 1 → j ≠ I 42 5 → j ≠ I 42 6 → z j = F 45 j) → ¬ KerF (F 2) (I 1 1) z)) := by
  have hv' : ∀ j, 0 ≤ j ∧ j < 4 → -1000 ≤ F 45 j ∧ F 45 j ≤ 1000 := fun j hj => by have := hv j hj; omega
  have hvn : ∀ j, 0 ≤ j ∧ j < I 1 1 → -1000 ≤ F 45 j ∧ F 45 j ≤ 1000 := fun j hj => hv' j (by omega)
  have hnn : ((I 1 1).toNat : Int) = I 1 1 := by omega
  have hdb : ∀ r, -108 ≤ dt (F 2) (F 45) r (I 1 1).toNat ∧ dt (F 2) (F 45) r (I 1 1).toNat ≤ 108 := fun r => by
    have := dt_b9 (r := r) hM (I 1 1).toNat (v := F 45) (fun j hj => hv j (by omega))
    omega
  have e0 : ∀ x : Int, (0 : Int) * 4 + x = x := fun x => by omega
  have e1 : ∀ x : Int, (1 : Int) * 4 + x = 4 + x := fun x => by omega
  refine MS_of (ls := [lr 42, lr 1, lu, lu, lu, lu]) f2_solvePivots rfl rfl (Nat.le_of_ble_eq_true rfl) ?_
  refine w_aload i2_solvePivots_0 rfl ?_
  refine w_get i2_solvePivots_1 rfl rfl ?_
  rcases hP with h0 | ⟨h1, hmin⟩ | h2
  · obtain ⟨a1, a2, a3, a4, a5, a6⟩ := h0
    refine w_ifne i2_solvePivots_4 (fun h_ => absurd h_ (by omega)) (fun h4 => ?_)
    refine w_const i2_solvePivots_7 ?_
    refine w_iret i2_solvePivots_8 (Or.inr ⟨rfl, by omega⟩) ⟨Nat.le_refl _, Nat.le_refl _⟩ ?_
    refine ⟨rfl, _, rfl, rfl, fun _ _ => rfl, fun _ _ _ => rfl, hv', Or.inl ⟨rfl, ?_, ?_⟩⟩
    · have : ∀ (k : Nat), (k : Int) ≤ I 1 1 → dt (F 2) (F 45) 0 k = 0 := fun k => by
        induction k with
        | zero => intro _; rfl
        | succ k ih => intro hk; simp only [dt]; rw [ih (by omega), e0, (a6 k (by omega)).1]; omega
      exact this _ (by omega)
    · have : ∀ (k : Nat), (k : Int) ≤ I 1 1 → dt (F 2) (F 45) 1 k = 0 := fun k => by
        induction k with
        | zero => intro _; rfl
        | succ k ih => intro hk; simp only [dt]; rw [ih (by omega), e1, (a6 k (by omega)).2]; omega
      exact this _ (by omega)
  · obtain ⟨b1, b2, b3, b4, b5, b6, b7⟩ := h1
    have hdv : 1 ≤ I 42 8 ∧ I 42 8 ≤ 3 := by
      have := hM (I 42 7 * 4 + I 42 5)
      omega
    have hb := hdb (I 42 7)
    have hx := tdiv_b (a := -dt (F 2) (F 45) (I 42 7) (I 1 1).toNat) (b := I 42 8) (B := 108) b7 (by omega)
    have hy := tmod_b (a := dt (F 2) (F 45) (I 42 7) (I 1 1).toNat) (b := I 42 8) (B := 108) hb
    have hz5 := hz (I 42 5) (by omega) (Or.inl rfl)
    have other : ∀ f : Int → Int, dt (F 2) f (I 42 7) (I 1 1).toNat = 0 → KerF (F 2) (I 1 1) f := fun f hf => by
      rcases (show I 42 7 = 0 ∨ I 42 7 = 1 by omega) with h | h
      · refine ⟨by have := hf; rw [h] at this; exact this, ?_⟩
        have := dt_prop (M := F 2) (f := f) (r := I 42 7) (q := 1) (p := I 42 5) (n := I 1 1) (Or.inl ⟨h, rfl⟩) b5 hmin (I 1 1).toNat (by omega)
        rw [hf, Int.mul_zero, ← b6] at this
        exact (Int.mul_eq_zero.mp this).resolve_left b7
      · refine ⟨?_, by have := hf; rw [h] at this; exact this⟩
        have := dt_prop (M := F 2) (f := f) (r := I 42 7) (q := 0) (p := I 42 5) (n := I 1 1) (Or.inr ⟨h, rfl⟩) b5 hmin (I 1 1).toNat (by omega)
        rw [hf, Int.mul_zero, ← b6] at this
        exact (Int.mul_eq_zero.mp this).resolve_left b7
    have row : ∀ f : Int → Int, KerF (F 2) (I 1 1) f → dt (F 2) f (I 42 7) (I 1 1).toNat = 0 := fun f hf => by
      rcases (show I 42 7 = 0 ∨ I 42 7 = 1 by omega) with h | h
      · rw [h]; exact hf.1
      · rw [h]; exact hf.2
    refine w_ifne i2_solvePivots_4 (fun h4 => ?_) (fun h_ => absurd h_ (by omega))
    refine w_aload i2_solvePivots_9 rfl ?_
    refine w_get i2_solvePivots_10 rfl rfl ?_
    refine w_const i2_solvePivots_13 ?_
    refine w_icmpne i2_solvePivots_14 (fun h_ => absurd h_ (by omega)) (fun h14 => ?_)
    refine w_aload i2_solvePivots_17 rfl ?_
    refine w_aload i2_solvePivots_18 rfl ?_
    refine w_get i2_solvePivots_19 rfl rfl ?_
    refine w_aload i2_solvePivots_22 rfl ?_
    refine w_getr i2_solvePivots_23 rfl rfl ?_
    refine w_cVR i2_solvePivots_26 f5_product v5_product (s5_product (N := 4) (by omega) (by omega) hn hM rfl (by omega) hvn) rfl rfl (by decide) rfl rfl (Nat.le_of_ble_eq_true rfl) (by omega) ?_
    refine w_is2 i2_solvePivots_29 ?_
    refine w_aload i2_solvePivots_30 rfl ?_
    refine w_getr i2_solvePivots_31 rfl rfl ?_
    refine w_aload i2_solvePivots_34 rfl ?_
    refine w_get i2_solvePivots_35 rfl rfl ?_
    refine w_iload i2_solvePivots_38 rfl ?_
    refine w_ineg i2_solvePivots_39 (by omega) ?_
    refine w_aload i2_solvePivots_40 rfl ?_
    refine w_get i2_solvePivots_41 rfl rfl ?_
    refine w_idiv i2_solvePivots_44 (by omega) (by omega) ?_
    refine w_iast i2_solvePivots_45 rfl (by omega) ?_
    refine w_iload i2_solvePivots_46 rfl ?_
    refine w_aload i2_solvePivots_47 rfl ?_
    refine w_get i2_solvePivots_48 rfl rfl ?_
    refine w_irem i2_solvePivots_51 (by omega) (by omega) ?_
    refine w_ifne i2_solvePivots_52 (fun h52 => ?_) (fun h52 => ?_)
    · refine w_const i2_solvePivots_59 ?_
      refine w_iret i2_solvePivots_60 (Or.inr ⟨rfl, by omega⟩) ⟨Nat.le_refl _, Nat.le_refl _⟩ ?_
      have hfr : ∀ a, a ≠ 45 → upF F 45 (I 42 5) ((-dt (F 2) (F 45) (I 42 7) (I 1 1).toNat).tdiv (I 42 8)) a = F a := fun a ha => by funext i; simp [upF, ha]
      have hnp : ∀ j, j ≠ I 42 5 → j ≠ I 42 6 → upF F 45 (I 42 5) ((-dt (F 2) (F 45) (I 42 7) (I 1 1).toNat).tdiv (I 42 8)) 45 j = F 45 j := fun j h5 _ => by simp [upF, h5]
      have hbd : ∀ j, 0 ≤ j ∧ j < 4 → -1000 ≤ upF F 45 (I 42 5) ((-dt (F 2) (F 45) (I 42 7) (I 1 1).toNat).tdiv (I 42 8)) 45 j ∧ upF F 45 (I 42 5) ((-dt (F 2) (F 45) (I 42 7) (I 1 1).toNat).tdiv (I 42 8)) 45 j ≤ 1000 := fun j hj => by
        simp only [upF, true_and]
        have := hv' j hj
        split <;> omega
      first
      | (have h52' : ¬ (dt (F 2) (F 45) (I 42 7) (I 1 1).toNat).tmod (I 42 8) = 0 := h52
         refine ⟨rfl, _, rfl, rfl, hfr, hnp, hbd, Or.inr ⟨rfl, fun z hzz hk => h52 ?_⟩⟩
         have hu := dt_upd (M := F 2) (f := F 45) (h := z) (r := I 42 7) (p := I 42 5) (I 1 1).toNat (fun j hj hj5 => hzz j (by omega) hj5 (by omega)) (by omega)
         rw [row z hk, hz5, Int.sub_zero, ← b6] at hu
         exact Int.tmod_eq_zero_of_dvd ⟨-(z (I 42 5)), by rw [Int.mul_neg]; omega⟩)
      | (refine ⟨rfl, _, rfl, rfl, hfr, hnp, hbd, Or.inl ⟨rfl, other _ ?_⟩⟩
         obtain ⟨w, hw⟩ := Int.dvd_of_tmod_eq_zero h52
         have hu := dt_upd (M := F 2) (f := F 45) (h := upF F 45 (I 42 5) ((-dt (F 2) (F 45) (I 42 7) (I 1 1).toNat).tdiv (I 42 8)) 45) (r := I 42 7) (p := I 42 5) (I 1 1).toNat (fun j hj hj5 => hnp j hj5 (by omega)) (by omega)
         rw [hu, hz5, ← b6, hw, ← Int.mul_neg, Int.mul_tdiv_cancel_left _ b7]
         simp only [upF, true_and, if_true]
         grind)
    · refine w_const i2_solvePivots_55 ?_
      refine w_goto i2_solvePivots_56 ?_
      refine w_iret i2_solvePivots_60 (Or.inr ⟨rfl, by omega⟩) ⟨Nat.le_refl _, Nat.le_refl _⟩ ?_
      have hfr : ∀ a, a ≠ 45 → upF F 45 (I 42 5) ((-dt (F 2) (F 45) (I 42 7) (I 1 1).toNat).tdiv (I 42 8)) a = F a := fun a ha => by funext i; simp [upF, ha]
      have hnp : ∀ j, j ≠ I 42 5 → j ≠ I 42 6 → upF F 45 (I 42 5) ((-dt (F 2) (F 45) (I 42 7) (I 1 1).toNat).tdiv (I 42 8)) 45 j = F 45 j := fun j h5 _ => by simp [upF, h5]
      have hbd : ∀ j, 0 ≤ j ∧ j < 4 → -1000 ≤ upF F 45 (I 42 5) ((-dt (F 2) (F 45) (I 42 7) (I 1 1).toNat).tdiv (I 42 8)) 45 j ∧ upF F 45 (I 42 5) ((-dt (F 2) (F 45) (I 42 7) (I 1 1).toNat).tdiv (I 42 8)) 45 j ≤ 1000 := fun j hj => by
        simp only [upF, true_and]
        have := hv' j hj
        split <;> omega
      first
      | (have h52' : ¬ (dt (F 2) (F 45) (I 42 7) (I 1 1).toNat).tmod (I 42 8) = 0 := h52
         refine ⟨rfl, _, rfl, rfl, hfr, hnp, hbd, Or.inr ⟨rfl, fun z hzz hk => h52 ?_⟩⟩
         have hu := dt_upd (M := F 2) (f := F 45) (h := z) (r := I 42 7) (p := I 42 5) (I 1 1).toNat (fun j hj hj5 => hzz j (by omega) hj5 (by omega)) (by omega)
         rw [row z hk, hz5, Int.sub_zero, ← b6] at hu
         exact Int.tmod_eq_zero_of_dvd ⟨-(z (I 42 5)), by rw [Int.mul_neg]; omega⟩)
      | (refine ⟨rfl, _, rfl, rfl, hfr, hnp, hbd, Or.inl ⟨rfl, other _ ?_⟩⟩
         obtain ⟨w, hw⟩ := Int.dvd_of_tmod_eq_zero h52
         have hu := dt_upd (M := F 2) (f := F 45) (h := upF F 45 (I 42 5) ((-dt (F 2) (F 45) (I 42 7) (I 1 1).toNat).tdiv (I 42 8)) 45) (r := I 42 7) (p := I 42 5) (I 1 1).toNat (fun j hj hj5 => hnp j hj5 (by omega)) (by omega)
         rw [hu, hz5, ← b6, hw, ← Int.mul_neg, Int.mul_tdiv_cancel_left _ b7]
         simp only [upF, true_and, if_true]
         grind)
  · obtain ⟨b1, b2, b3, b4, b5, b6, b7⟩ := h2
    have hb0 := hdb 0
    have hb1 := hdb 1
    have hz5 := hz (I 42 5) (by omega) (Or.inl rfl)
    have hz6 := hz (I 42 6) (by omega) (Or.inr rfl)
    generalize hU : dt (F 2) (F 45) 0 (I 1 1).toNat = U at hb0
    generalize hLo : dt (F 2) (F 45) 1 (I 1 1).toNat = Lo at hb1
    have m1 := mulb (hM (I 42 6)) (B := 108) hb1
    have m2 := mulb (hM (4 + I 42 6)) (B := 108) hb0
    have m3 := mulb (hM (4 + I 42 5)) (B := 108) hb0
    have m4 := mulb (hM (I 42 5)) (B := 108) hb1
    have hx := tdiv_b (a := F 2 (I 42 6) * Lo - F 2 (4 + I 42 6) * U) (b := I 42 8) (B := 648) b7 (by omega)
    have hy := tdiv_b (a := F 2 (4 + I 42 5) * U - F 2 (I 42 5) * Lo) (b := I 42 8) (B := 648) b7 (by omega)
    have hx2 := tmod_b (a := F 2 (I 42 6) * Lo - F 2 (4 + I 42 6) * U) (b := I 42 8) (B := 648) (by omega)
    have hy2 := tmod_b (a := F 2 (4 + I 42 5) * U - F 2 (I 42 5) * Lo) (b := I 42 8) (B := 648) (by omega)
    have two : ∀ (z : Int → Int), (∀ j, 0 ≤ j ∧ j < I 1 1 → j ≠ I 42 5 → j ≠ I 42 6 → z j = F 45 j) → dt (F 2) z 0 (I 1 1).toNat = U + F 2 (I 42 5) * z (I 42 5) + F 2 (I 42 6) * z (I 42 6) ∧ dt (F 2) z 1 (I 1 1).toNat = Lo + F 2 (4 + I 42 5) * z (I 42 5) + F 2 (4 + I 42 6) * z (I 42 6) := fun z hzz => by
      have g1 : ∀ r, dt (F 2) (fun j => if j = I 42 5 then z j else F 45 j) r (I 1 1).toNat = dt (F 2) (F 45) r (I 1 1).toNat + F 2 (r * 4 + I 42 5) * z (I 42 5) := fun r => by
        have := dt_upd (M := F 2) (f := F 45) (h := fun j => if j = I 42 5 then z j else F 45 j) (r := r) (p := I 42 5) (I 1 1).toNat (fun j _ hj5 => if_neg hj5) (by omega)
        simp only [if_true] at this
        rw [this, hz5, Int.sub_zero]
      have g2 : ∀ r, dt (F 2) z r (I 1 1).toNat = dt (F 2) (fun j => if j = I 42 5 then z j else F 45 j) r (I 1 1).toNat + F 2 (r * 4 + I 42 6) * z (I 42 6) := fun r => by
        have := dt_upd (M := F 2) (f := fun j => if j = I 42 5 then z j else F 45 j) (h := z) (r := r) (p := I 42 6) (I 1 1).toNat (fun j hj hj6 => by
          by_cases h : j = I 42 5
          · simp only [h, if_true]
          · simp only [h, if_false]; exact hzz j (by omega) h hj6) (by omega)
        rw [this, if_neg (by omega), hz6, Int.sub_zero]
      rw [g2, g1, g2, g1, hU, hLo, e0, e0, e1, e1]
      exact ⟨rfl, rfl⟩
    refine w_ifne i2_solvePivots_4 (fun h4 => ?_) (fun h_ => absurd h_ (by omega))
    refine w_aload i2_solvePivots_9 rfl ?_
    refine w_get i2_solvePivots_10 rfl rfl ?_
    refine w_const i2_solvePivots_13 ?_
    refine w_icmpne i2_solvePivots_14 (fun h14 => ?_) (fun h_ => absurd h_ (by omega))
    refine w_aload i2_solvePivots_61 rfl ?_
    refine w_const i2_solvePivots_62 ?_
    refine w_aload i2_solvePivots_63 rfl ?_
    refine w_getr i2_solvePivots_64 rfl rfl ?_
    refine w_cVR i2_solvePivots_67 f5_product v5_product (s5_product (N := 4) (by omega) (by omega) hn hM rfl (by omega) hvn) rfl rfl (by decide) rfl rfl (Nat.le_of_ble_eq_true rfl) (by omega) ?_
    rw [hU]
    refine w_is2 i2_solvePivots_70 ?_
    refine w_aload i2_solvePivots_71 rfl ?_
    refine w_const i2_solvePivots_72 ?_
    refine w_aload i2_solvePivots_73 rfl ?_
    refine w_getr i2_solvePivots_74 rfl rfl ?_
    refine w_cVR i2_solvePivots_77 f5_product v5_product (s5_product (N := 4) (by omega) (by omega) hn hM rfl (by omega) hvn) rfl rfl (by decide) rfl rfl (Nat.le_of_ble_eq_true rfl) (by omega) ?_
    rw [hLo]
    refine w_is3 i2_solvePivots_80 ?_
    refine w_aload i2_solvePivots_81 rfl ?_
    refine w_const i2_solvePivots_82 ?_
    refine w_aload i2_solvePivots_83 rfl ?_
    refine w_get i2_solvePivots_84 rfl rfl ?_
    refine w_cVR i2_solvePivots_87 f5_at v5_at (s5_at (by omega) (by omega)) rfl rfl (by decide) rfl rfl (Nat.le_of_ble_eq_true rfl) (by omega) ?_
    rw [e0]
    refine w_iload i2_solvePivots_90 rfl ?_
    refine w_imul i2_solvePivots_91 (by omega) ?_
    refine w_aload i2_solvePivots_92 rfl ?_
    refine w_const i2_solvePivots_93 ?_
    refine w_aload i2_solvePivots_94 rfl ?_
    refine w_get i2_solvePivots_95 rfl rfl ?_
    refine w_cVR i2_solvePivots_98 f5_at v5_at (s5_at (by omega) (by omega)) rfl rfl (by decide) rfl rfl (Nat.le_of_ble_eq_true rfl) (by omega) ?_
    rw [e1]
    refine w_iload i2_solvePivots_101 rfl ?_
    refine w_imul i2_solvePivots_102 (by omega) ?_
    refine w_isub i2_solvePivots_103 (by omega) ?_
    refine w_is4 i2_solvePivots_104 ?_
    refine w_aload i2_solvePivots_106 rfl ?_
    refine w_const i2_solvePivots_107 ?_
    refine w_aload i2_solvePivots_108 rfl ?_
    refine w_get i2_solvePivots_109 rfl rfl ?_
    refine w_cVR i2_solvePivots_112 f5_at v5_at (s5_at (by omega) (by omega)) rfl rfl (by decide) rfl rfl (Nat.le_of_ble_eq_true rfl) (by omega) ?_
    rw [e1]
    refine w_iload i2_solvePivots_115 rfl ?_
    refine w_imul i2_solvePivots_116 (by omega) ?_
    refine w_aload i2_solvePivots_117 rfl ?_
    refine w_const i2_solvePivots_118 ?_
    refine w_aload i2_solvePivots_119 rfl ?_
    refine w_get i2_solvePivots_120 rfl rfl ?_
    refine w_cVR i2_solvePivots_123 f5_at v5_at (s5_at (by omega) (by omega)) rfl rfl (by decide) rfl rfl (Nat.le_of_ble_eq_true rfl) (by omega) ?_
    rw [e0]
    refine w_iload i2_solvePivots_126 rfl ?_
    refine w_imul i2_solvePivots_127 (by omega) ?_
    refine w_isub i2_solvePivots_128 (by omega) ?_
    refine w_is5 i2_solvePivots_129 ?_
    refine w_aload i2_solvePivots_131 rfl ?_
    refine w_getr i2_solvePivots_132 rfl rfl ?_
    refine w_aload i2_solvePivots_135 rfl ?_
    refine w_get i2_solvePivots_136 rfl rfl ?_
    refine w_iload i2_solvePivots_139 rfl ?_
    refine w_aload i2_solvePivots_141 rfl ?_
    refine w_get i2_solvePivots_142 rfl rfl ?_
    refine w_idiv i2_solvePivots_145 (by omega) (by omega) ?_
    refine w_iast i2_solvePivots_146 rfl (by omega) ?_
    refine w_aload i2_solvePivots_147 rfl ?_
    refine w_getr i2_solvePivots_148 rfl rfl ?_
    refine w_aload i2_solvePivots_151 rfl ?_
    refine w_get i2_solvePivots_152 rfl rfl ?_
    refine w_iload i2_solvePivots_155 rfl ?_
    refine w_aload i2_solvePivots_157 rfl ?_
    refine w_get i2_solvePivots_158 rfl rfl ?_
    refine w_idiv i2_solvePivots_161 (by omega) (by omega) ?_
    refine w_iast i2_solvePivots_162 rfl (by omega) ?_
    refine w_iload i2_solvePivots_163 rfl ?_
    refine w_aload i2_solvePivots_165 rfl ?_
    refine w_get i2_solvePivots_166 rfl rfl ?_
    refine w_irem i2_solvePivots_169 (by omega) (by omega) ?_
    refine w_ifne i2_solvePivots_170 (fun h170 => ?_) (fun h170 => ?_)
    · refine w_const i2_solvePivots_187 ?_
      refine w_iret i2_solvePivots_188 (Or.inr ⟨rfl, by omega⟩) ⟨Nat.le_refl _, Nat.le_refl _⟩ ?_
      have hfr : ∀ a, a ≠ 45 → upF (upF F 45 (I 42 5) ((F 2 (I 42 6) * Lo - F 2 (4 + I 42 6) * U).tdiv (I 42 8))) 45 (I 42 6) ((F 2 (4 + I 42 5) * U - F 2 (I 42 5) * Lo).tdiv (I 42 8)) a = F a := fun a ha => by funext i; simp [upF, ha]
      have hnp : ∀ j, j ≠ I 42 5 → j ≠ I 42 6 → upF (upF F 45 (I 42 5) ((F 2 (I 42 6) * Lo - F 2 (4 + I 42 6) * U).tdiv (I 42 8))) 45 (I 42 6) ((F 2 (4 + I 42 5) * U - F 2 (I 42 5) * Lo).tdiv (I 42 8)) 45 j = F 45 j := fun j h5 h6 => by simp [upF, h5, h6]
      have hx5 : upF (upF F 45 (I 42 5) ((F 2 (I 42 6) * Lo - F 2 (4 + I 42 6) * U).tdiv (I 42 8))) 45 (I 42 6) ((F 2 (4 + I 42 5) * U - F 2 (I 42 5) * Lo).tdiv (I 42 8)) 45 (I 42 5) = (F 2 (I 42 6) * Lo - F 2 (4 + I 42 6) * U).tdiv (I 42 8) := by
        simp only [upF, true_and, if_true]
        exact if_neg (by omega)
      have hx6 : upF (upF F 45 (I 42 5) ((F 2 (I 42 6) * Lo - F 2 (4 + I 42 6) * U).tdiv (I 42 8))) 45 (I 42 6) ((F 2 (4 + I 42 5) * U - F 2 (I 42 5) * Lo).tdiv (I 42 8)) 45 (I 42 6) = (F 2 (4 + I 42 5) * U - F 2 (I 42 5) * Lo).tdiv (I 42 8) := by
        simp only [upF, true_and, if_true]
      have hbd : ∀ j, 0 ≤ j ∧ j < 4 → -1000 ≤ upF (upF F 45 (I 42 5) ((F 2 (I 42 6) * Lo - F 2 (4 + I 42 6) * U).tdiv (I 42 8))) 45 (I 42 6) ((F 2 (4 + I 42 5) * U - F 2 (I 42 5) * Lo).tdiv (I 42 8)) 45 j ∧ upF (upF F 45 (I 42 5) ((F 2 (I 42 6) * Lo - F 2 (4 + I 42 6) * U).tdiv (I 42 8))) 45 (I 42 6) ((F 2 (4 + I 42 5) * U - F 2 (I 42 5) * Lo).tdiv (I 42 8)) 45 j ≤ 1000 := fun j hj => by
        simp only [upF, true_and]
        have := hv' j hj
        (repeat' split) <;> omega
      generalize hG : upF (upF F 45 (I 42 5) ((F 2 (I 42 6) * Lo - F 2 (4 + I 42 6) * U).tdiv (I 42 8))) 45 (I 42 6) ((F 2 (4 + I 42 5) * U - F 2 (I 42 5) * Lo).tdiv (I 42 8)) = G at hfr hnp hx5 hx6 hbd ⊢
      unfold mnr at b6
      have cr : ∀ z : Int → Int, (∀ j, 0 ≤ j ∧ j < I 1 1 → j ≠ I 42 5 → j ≠ I 42 6 → z j = F 45 j) → KerF (F 2) (I 1 1) z → (F 2 (I 42 6) * Lo - F 2 (4 + I 42 6) * U = I 42 8 * z (I 42 5)) ∧ (F 2 (4 + I 42 5) * U - F 2 (I 42 5) * Lo = I 42 8 * z (I 42 6)) := fun z hzz hk => by
        obtain ⟨t1, t2⟩ := two z hzz
        rw [hk.1] at t1
        rw [hk.2] at t2
        rw [b6]
        constructor <;> grind
      first
      | (have h170' : ¬ (F 2 (I 42 6) * Lo - F 2 (4 + I 42 6) * U).tmod (I 42 8) = 0 := h170
         exact ⟨rfl, _, rfl, rfl, hfr, hnp, hbd, Or.inr ⟨rfl, fun z hzz hk => h170 (Int.tmod_eq_zero_of_dvd ⟨_, (cr z hzz hk).1⟩)⟩⟩)
      | (have h180' : ¬ (F 2 (4 + I 42 5) * U - F 2 (I 42 5) * Lo).tmod (I 42 8) = 0 := h180
         exact ⟨rfl, _, rfl, rfl, hfr, hnp, hbd, Or.inr ⟨rfl, fun z hzz hk => h180 (Int.tmod_eq_zero_of_dvd ⟨_, (cr z hzz hk).2⟩)⟩⟩)
      | (refine ⟨rfl, _, rfl, rfl, hfr, hnp, hbd, Or.inl ⟨rfl, ?_⟩⟩
         obtain ⟨w, hw⟩ := Int.dvd_of_tmod_eq_zero h170
         obtain ⟨y, hy⟩ := Int.dvd_of_tmod_eq_zero h180
         obtain ⟨t1, t2⟩ := two (G 45) (fun j hj h5 h6 => hnp j h5 h6)
         rw [hx5, hx6, hw, hy, Int.mul_tdiv_cancel_left _ b7, Int.mul_tdiv_cancel_left _ b7] at t1 t2
         have z1 : I 42 8 * (U + F 2 (I 42 5) * w + F 2 (I 42 6) * y) = 0 := by rw [b6] at hw hy ⊢; grind
         have z2 : I 42 8 * (Lo + F 2 (4 + I 42 5) * w + F 2 (4 + I 42 6) * y) = 0 := by rw [b6] at hw hy ⊢; grind
         exact ⟨by rw [t1]; exact (Int.mul_eq_zero.mp z1).resolve_left b7, by rw [t2]; exact (Int.mul_eq_zero.mp z2).resolve_left b7⟩)
    · refine w_iload i2_solvePivots_173 rfl ?_
      refine w_aload i2_solvePivots_175 rfl ?_
      refine w_get i2_solvePivots_176 rfl rfl ?_
      refine w_irem i2_solvePivots_179 (by omega) (by omega) ?_
      refine w_ifne i2_solvePivots_180 (fun h180 => ?_) (fun h180 => ?_)
      · refine w_const i2_solvePivots_187 ?_
        refine w_iret i2_solvePivots_188 (Or.inr ⟨rfl, by omega⟩) ⟨Nat.le_refl _, Nat.le_refl _⟩ ?_
        have hfr : ∀ a, a ≠ 45 → upF (upF F 45 (I 42 5) ((F 2 (I 42 6) * Lo - F 2 (4 + I 42 6) * U).tdiv (I 42 8))) 45 (I 42 6) ((F 2 (4 + I 42 5) * U - F 2 (I 42 5) * Lo).tdiv (I 42 8)) a = F a := fun a ha => by funext i; simp [upF, ha]
        have hnp : ∀ j, j ≠ I 42 5 → j ≠ I 42 6 → upF (upF F 45 (I 42 5) ((F 2 (I 42 6) * Lo - F 2 (4 + I 42 6) * U).tdiv (I 42 8))) 45 (I 42 6) ((F 2 (4 + I 42 5) * U - F 2 (I 42 5) * Lo).tdiv (I 42 8)) 45 j = F 45 j := fun j h5 h6 => by simp [upF, h5, h6]
        have hx5 : upF (upF F 45 (I 42 5) ((F 2 (I 42 6) * Lo - F 2 (4 + I 42 6) * U).tdiv (I 42 8))) 45 (I 42 6) ((F 2 (4 + I 42 5) * U - F 2 (I 42 5) * Lo).tdiv (I 42 8)) 45 (I 42 5) = (F 2 (I 42 6) * Lo - F 2 (4 + I 42 6) * U).tdiv (I 42 8) := by
          simp only [upF, true_and, if_true]
          exact if_neg (by omega)
        have hx6 : upF (upF F 45 (I 42 5) ((F 2 (I 42 6) * Lo - F 2 (4 + I 42 6) * U).tdiv (I 42 8))) 45 (I 42 6) ((F 2 (4 + I 42 5) * U - F 2 (I 42 5) * Lo).tdiv (I 42 8)) 45 (I 42 6) = (F 2 (4 + I 42 5) * U - F 2 (I 42 5) * Lo).tdiv (I 42 8) := by
          simp only [upF, true_and, if_true]
        have hbd : ∀ j, 0 ≤ j ∧ j < 4 → -1000 ≤ upF (upF F 45 (I 42 5) ((F 2 (I 42 6) * Lo - F 2 (4 + I 42 6) * U).tdiv (I 42 8))) 45 (I 42 6) ((F 2 (4 + I 42 5) * U - F 2 (I 42 5) * Lo).tdiv (I 42 8)) 45 j ∧ upF (upF F 45 (I 42 5) ((F 2 (I 42 6) * Lo - F 2 (4 + I 42 6) * U).tdiv (I 42 8))) 45 (I 42 6) ((F 2 (4 + I 42 5) * U - F 2 (I 42 5) * Lo).tdiv (I 42 8)) 45 j ≤ 1000 := fun j hj => by
          simp only [upF, true_and]
          have := hv' j hj
          (repeat' split) <;> omega
        generalize hG : upF (upF F 45 (I 42 5) ((F 2 (I 42 6) * Lo - F 2 (4 + I 42 6) * U).tdiv (I 42 8))) 45 (I 42 6) ((F 2 (4 + I 42 5) * U - F 2 (I 42 5) * Lo).tdiv (I 42 8)) = G at hfr hnp hx5 hx6 hbd ⊢
        unfold mnr at b6
        have cr : ∀ z : Int → Int, (∀ j, 0 ≤ j ∧ j < I 1 1 → j ≠ I 42 5 → j ≠ I 42 6 → z j = F 45 j) → KerF (F 2) (I 1 1) z → (F 2 (I 42 6) * Lo - F 2 (4 + I 42 6) * U = I 42 8 * z (I 42 5)) ∧ (F 2 (4 + I 42 5) * U - F 2 (I 42 5) * Lo = I 42 8 * z (I 42 6)) := fun z hzz hk => by
          obtain ⟨t1, t2⟩ := two z hzz
          rw [hk.1] at t1
          rw [hk.2] at t2
          rw [b6]
          constructor <;> grind
        first
        | (have h170' : ¬ (F 2 (I 42 6) * Lo - F 2 (4 + I 42 6) * U).tmod (I 42 8) = 0 := h170
           exact ⟨rfl, _, rfl, rfl, hfr, hnp, hbd, Or.inr ⟨rfl, fun z hzz hk => h170 (Int.tmod_eq_zero_of_dvd ⟨_, (cr z hzz hk).1⟩)⟩⟩)
        | (have h180' : ¬ (F 2 (4 + I 42 5) * U - F 2 (I 42 5) * Lo).tmod (I 42 8) = 0 := h180
           exact ⟨rfl, _, rfl, rfl, hfr, hnp, hbd, Or.inr ⟨rfl, fun z hzz hk => h180 (Int.tmod_eq_zero_of_dvd ⟨_, (cr z hzz hk).2⟩)⟩⟩)
        | (refine ⟨rfl, _, rfl, rfl, hfr, hnp, hbd, Or.inl ⟨rfl, ?_⟩⟩
           obtain ⟨w, hw⟩ := Int.dvd_of_tmod_eq_zero h170
           obtain ⟨y, hy⟩ := Int.dvd_of_tmod_eq_zero h180
           obtain ⟨t1, t2⟩ := two (G 45) (fun j hj h5 h6 => hnp j h5 h6)
           rw [hx5, hx6, hw, hy, Int.mul_tdiv_cancel_left _ b7, Int.mul_tdiv_cancel_left _ b7] at t1 t2
           have z1 : I 42 8 * (U + F 2 (I 42 5) * w + F 2 (I 42 6) * y) = 0 := by rw [b6] at hw hy ⊢; grind
           have z2 : I 42 8 * (Lo + F 2 (4 + I 42 5) * w + F 2 (4 + I 42 6) * y) = 0 := by rw [b6] at hw hy ⊢; grind
           exact ⟨by rw [t1]; exact (Int.mul_eq_zero.mp z1).resolve_left b7, by rw [t2]; exact (Int.mul_eq_zero.mp z2).resolve_left b7⟩)
      · refine w_const i2_solvePivots_183 ?_
        refine w_goto i2_solvePivots_184 ?_
        refine w_iret i2_solvePivots_188 (Or.inr ⟨rfl, by omega⟩) ⟨Nat.le_refl _, Nat.le_refl _⟩ ?_
        have hfr : ∀ a, a ≠ 45 → upF (upF F 45 (I 42 5) ((F 2 (I 42 6) * Lo - F 2 (4 + I 42 6) * U).tdiv (I 42 8))) 45 (I 42 6) ((F 2 (4 + I 42 5) * U - F 2 (I 42 5) * Lo).tdiv (I 42 8)) a = F a := fun a ha => by funext i; simp [upF, ha]
        have hnp : ∀ j, j ≠ I 42 5 → j ≠ I 42 6 → upF (upF F 45 (I 42 5) ((F 2 (I 42 6) * Lo - F 2 (4 + I 42 6) * U).tdiv (I 42 8))) 45 (I 42 6) ((F 2 (4 + I 42 5) * U - F 2 (I 42 5) * Lo).tdiv (I 42 8)) 45 j = F 45 j := fun j h5 h6 => by simp [upF, h5, h6]
        have hx5 : upF (upF F 45 (I 42 5) ((F 2 (I 42 6) * Lo - F 2 (4 + I 42 6) * U).tdiv (I 42 8))) 45 (I 42 6) ((F 2 (4 + I 42 5) * U - F 2 (I 42 5) * Lo).tdiv (I 42 8)) 45 (I 42 5) = (F 2 (I 42 6) * Lo - F 2 (4 + I 42 6) * U).tdiv (I 42 8) := by
          simp only [upF, true_and, if_true]
          exact if_neg (by omega)
        have hx6 : upF (upF F 45 (I 42 5) ((F 2 (I 42 6) * Lo - F 2 (4 + I 42 6) * U).tdiv (I 42 8))) 45 (I 42 6) ((F 2 (4 + I 42 5) * U - F 2 (I 42 5) * Lo).tdiv (I 42 8)) 45 (I 42 6) = (F 2 (4 + I 42 5) * U - F 2 (I 42 5) * Lo).tdiv (I 42 8) := by
          simp only [upF, true_and, if_true]
        have hbd : ∀ j, 0 ≤ j ∧ j < 4 → -1000 ≤ upF (upF F 45 (I 42 5) ((F 2 (I 42 6) * Lo - F 2 (4 + I 42 6) * U).tdiv (I 42 8))) 45 (I 42 6) ((F 2 (4 + I 42 5) * U - F 2 (I 42 5) * Lo).tdiv (I 42 8)) 45 j ∧ upF (upF F 45 (I 42 5) ((F 2 (I 42 6) * Lo - F 2 (4 + I 42 6) * U).tdiv (I 42 8))) 45 (I 42 6) ((F 2 (4 + I 42 5) * U - F 2 (I 42 5) * Lo).tdiv (I 42 8)) 45 j ≤ 1000 := fun j hj => by
          simp only [upF, true_and]
          have := hv' j hj
          (repeat' split) <;> omega
        generalize hG : upF (upF F 45 (I 42 5) ((F 2 (I 42 6) * Lo - F 2 (4 + I 42 6) * U).tdiv (I 42 8))) 45 (I 42 6) ((F 2 (4 + I 42 5) * U - F 2 (I 42 5) * Lo).tdiv (I 42 8)) = G at hfr hnp hx5 hx6 hbd ⊢
        unfold mnr at b6
        have cr : ∀ z : Int → Int, (∀ j, 0 ≤ j ∧ j < I 1 1 → j ≠ I 42 5 → j ≠ I 42 6 → z j = F 45 j) → KerF (F 2) (I 1 1) z → (F 2 (I 42 6) * Lo - F 2 (4 + I 42 6) * U = I 42 8 * z (I 42 5)) ∧ (F 2 (4 + I 42 5) * U - F 2 (I 42 5) * Lo = I 42 8 * z (I 42 6)) := fun z hzz hk => by
          obtain ⟨t1, t2⟩ := two z hzz
          rw [hk.1] at t1
          rw [hk.2] at t2
          rw [b6]
          constructor <;> grind
        first
        | (have h170' : ¬ (F 2 (I 42 6) * Lo - F 2 (4 + I 42 6) * U).tmod (I 42 8) = 0 := h170
           exact ⟨rfl, _, rfl, rfl, hfr, hnp, hbd, Or.inr ⟨rfl, fun z hzz hk => h170 (Int.tmod_eq_zero_of_dvd ⟨_, (cr z hzz hk).1⟩)⟩⟩)
        | (have h180' : ¬ (F 2 (4 + I 42 5) * U - F 2 (I 42 5) * Lo).tmod (I 42 8) = 0 := h180
           exact ⟨rfl, _, rfl, rfl, hfr, hnp, hbd, Or.inr ⟨rfl, fun z hzz hk => h180 (Int.tmod_eq_zero_of_dvd ⟨_, (cr z hzz hk).2⟩)⟩⟩)
        | (refine ⟨rfl, _, rfl, rfl, hfr, hnp, hbd, Or.inl ⟨rfl, ?_⟩⟩
           obtain ⟨w, hw⟩ := Int.dvd_of_tmod_eq_zero h170
           obtain ⟨y, hy⟩ := Int.dvd_of_tmod_eq_zero h180
           obtain ⟨t1, t2⟩ := two (G 45) (fun j hj h5 h6 => hnp j h5 h6)
           rw [hx5, hx6, hw, hy, Int.mul_tdiv_cancel_left _ b7, Int.mul_tdiv_cancel_left _ b7] at t1 t2
           have z1 : I 42 8 * (U + F 2 (I 42 5) * w + F 2 (I 42 6) * y) = 0 := by rw [b6] at hw hy ⊢; grind
           have z2 : I 42 8 * (Lo + F 2 (4 + I 42 5) * w + F 2 (4 + I 42 6) * y) = 0 := by rw [b6] at hw hy ⊢; grind
           exact ⟨by rw [t1]; exact (Int.mul_eq_zero.mp z1).resolve_left b7, by rw [t2]; exact (Int.mul_eq_zero.mp z2).resolve_left b7⟩)
