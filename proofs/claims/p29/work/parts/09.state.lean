-- GraverCalculator.State at place 1: 0 rows, 1 columns, 2 matrix (place 2), 3 vector (3), 4 point (4), 5 active
theorem nat_of {x : Int} {m : Nat} (h0 : 0 ≤ x) (h : x ≤ m) : ∃ k : Nat, x = (k : Int) ∧ k ≤ m := ⟨x.toNat, by omega, by omega⟩
theorem mulb {a b B : Int} (ha : 0 ≤ a ∧ a ≤ 3) (hb : -B ≤ b ∧ b ≤ B) : -(3 * B) ≤ a * b ∧ a * b ≤ 3 * B := by
  rcases (show a = 0 ∨ a = 1 ∨ a = 2 ∨ a = 3 by omega) with rfl | rfl | rfl | rfl <;> omega
/-- a row times a vector, the first k columns -/
def dt (M v : Int → Int) (r : Int) : Nat → Int
  | 0 => 0
  | k + 1 => dt M v r k + M (r * 4 + k) * v k
theorem dt_b {M v : Int → Int} {r : Int} (hM : ∀ j, 0 ≤ M j ∧ M j ≤ 3) : ∀ (k : Nat), (∀ j : Int, 0 ≤ j ∧ j < k → -1000 ≤ v j ∧ v j ≤ 1000) → -(3000 * (k : Int)) ≤ dt M v r k ∧ dt M v r k ≤ 3000 * (k : Int)
  | 0, _ => by simp [dt]
  | k + 1, h => by
    have := dt_b (r := r) hM k (fun j hj => h j (by omega))
    have h2 := mulb (hM (r * 4 + k)) (B := 1000) (h k (by omega))
    simp only [dt]
    omega
theorem dt_ext {M v w : Int → Int} {r : Int} : ∀ (k : Nat), (∀ j : Int, 0 ≤ j ∧ j < k → v j = w j) → dt M v r k = dt M w r k
  | 0, _ => rfl
  | k + 1, h => by
    simp only [dt]
    rw [dt_ext k (fun j hj => h j (by omega)), h k (by omega)]
theorem s5_at {d : Nat} {I : IE} {F : FE} {r c : Int} (hr : 0 ≤ r ∧ r ≤ 1) (hc : 0 ≤ c ∧ c ≤ 3) : MR m5_at d shX [rv 1, iv r, iv c] I F (F 2 (r * 4 + c)) := by
  refine MS_of (ls := [lr 1, li r, li c, lu]) f5_at rfl rfl (Nat.le_of_ble_eq_true rfl) ?_
  refine w_iload i5_at_0 rfl ?_
  refine w_const i5_at_1 ?_
  refine w_imul i5_at_2 (by omega) ?_
  refine w_iload i5_at_3 rfl ?_
  refine w_iadd i5_at_4 (by omega) ?_
  refine w_is3 i5_at_5 ?_
  refine w_iload i5_at_6 rfl ?_
  refine w_iflt i5_at_7 (fun h_ => absurd h_ (by omega)) (fun h7 => ?_)
  refine w_iload i5_at_10 rfl ?_
  refine w_aload i5_at_11 rfl ?_
  refine w_getr i5_at_12 rfl rfl ?_
  refine w_alen i5_at_15 rfl (by decide) ?_
  refine w_icmpge i5_at_16 (fun h_ => absurd h_ (by omega)) (fun h16 => ?_)
  refine w_aload i5_at_19 rfl ?_
  refine w_getr i5_at_20 rfl rfl ?_
  refine w_iload i5_at_23 rfl ?_
  refine w_iald i5_at_24 rfl (by omega) ?_
  refine w_goto i5_at_25 ?_
  refine w_iret i5_at_29 (Or.inl rfl) ⟨Nat.le_refl _, Nat.le_refl _⟩ ?_
  exact ⟨rfl, rfl, rfl, rfl⟩
theorem s5_put {d : Nat} {I : IE} {F : FE} {r c x : Int} (hr : 0 ≤ r ∧ r ≤ 1) (hc : 0 ≤ c ∧ c ≤ 3) : MU m5_put d shX [rv 1, iv r, iv c, iv x] I F (fun I' F' => I' = I ∧ F' = upF F 2 (r * 4 + c) x) := by
  refine MS_of (ls := [lr 1, li r, li c, li x, lu]) f5_put rfl rfl (Nat.le_of_ble_eq_true rfl) ?_
  refine w_iload i5_put_0 rfl ?_
  refine w_const i5_put_1 ?_
  refine w_imul i5_put_2 (by omega) ?_
  refine w_iload i5_put_3 rfl ?_
  refine w_iadd i5_put_4 (by omega) ?_
  refine w_is4 i5_put_5 ?_
  refine w_iload i5_put_7 rfl ?_
  refine w_iflt i5_put_9 (fun h_ => absurd h_ (by omega)) (fun h9 => ?_)
  refine w_iload i5_put_12 rfl ?_
  refine w_aload i5_put_14 rfl ?_
  refine w_getr i5_put_15 rfl rfl ?_
  refine w_alen i5_put_18 rfl (by decide) ?_
  refine w_icmpge i5_put_19 (fun h_ => absurd h_ (by omega)) (fun h19 => ?_)
  refine w_aload i5_put_22 rfl ?_
  refine w_getr i5_put_23 rfl rfl ?_
  refine w_iload i5_put_26 rfl ?_
  refine w_iload i5_put_28 rfl ?_
  refine w_iast i5_put_29 rfl (by omega) ?_
  refine w_vret i5_put_30 rfl ⟨Nat.le_refl _, Nat.le_refl _⟩ ?_
  exact ⟨rfl, rfl, rfl, rfl⟩
theorem l5_product {d n0 : Nat} {Q : PQ} {I : IE} {F : FE} {r : Int} {p N : Nat} (hd : 1 ≤ d) (hr : 0 ≤ r ∧ r ≤ 1) (hn : 0 ≤ I 1 1 ∧ I 1 1 ≤ 4) (hM : ∀ j, 0 ≤ F 2 j ∧ F 2 j ≤ 3) (hp : shX[p]? = some (.inl N)) (hN : 4 ≤ N) (hv : ∀ j, 0 ≤ j ∧ j < I 1 1 → -1000 ≤ F p j ∧ F p j ≤ 1000)
    (K : WS m5_product d 0 0 n0 Q 0 0 35 [lr 1, li r, lr p, li (dt (F 2) (F p) r (I 1 1).toNat), li (I 1 1)] [] shX I F) :
    ∀ (m k : Nat), (k + m : Int) = I 1 1 → WS m5_product d 0 0 n0 Q 0 0 5 [lr 1, li r, lr p, li (dt (F 2) (F p) r k), li k] [] shX I F := by
  intro m
  induction m with
  | zero =>
    intro k hk
    refine w_iload i5_product_5 rfl ?_
    refine w_aload i5_product_7 rfl ?_
    refine w_get i5_product_8 rfl rfl ?_
    refine w_icmpge i5_product_11 (fun h11 => ?_) (fun h_ => absurd h_ (by omega))
    have e : (k : Int) = I 1 1 := by omega
    rw [e, show k = (I 1 1).toNat by omega]
    exact K
  | succ m ih =>
    intro k hk
    have hb := dt_b (r := r) hM k (fun j hj => hv j (by omega))
    have h2 := mulb (hM (r * 4 + k)) (B := 1000) (hv k (by omega))
    refine w_iload i5_product_5 rfl ?_
    refine w_aload i5_product_7 rfl ?_
    refine w_get i5_product_8 rfl rfl ?_
    refine w_icmpge i5_product_11 (fun h_ => absurd h_ (by omega)) (fun h11 => ?_)
    refine w_iload i5_product_14 rfl ?_
    refine w_aload i5_product_15 rfl ?_
    refine w_iload i5_product_16 rfl ?_
    refine w_iload i5_product_17 rfl ?_
    refine w_cVR i5_product_19 f5_at v5_at (s5_at hr (by omega)) rfl rfl (by decide) rfl rfl (Nat.le_of_ble_eq_true rfl) (by omega) ?_
    refine w_aload i5_product_22 rfl ?_
    refine w_iload i5_product_23 rfl ?_
    refine w_iald i5_product_25 hp (by omega) ?_
    refine w_imul i5_product_26 (by omega) ?_
    refine w_iadd i5_product_27 (by omega) ?_
    refine w_is3 i5_product_28 ?_
    refine w_ii4 i5_product_29 (by omega) ?_
    refine w_goto i5_product_32 ?_
    have := ih (k + 1) (by omega)
    exact this
theorem s5_product {d : Nat} {I : IE} {F : FE} {r : Int} {p N : Nat} (hd : 1 ≤ d) (hr : 0 ≤ r ∧ r ≤ 1) (hn : 0 ≤ I 1 1 ∧ I 1 1 ≤ 4) (hM : ∀ j, 0 ≤ F 2 j ∧ F 2 j ≤ 3) (hp : shX[p]? = some (.inl N)) (hN : 4 ≤ N) (hv : ∀ j, 0 ≤ j ∧ j < I 1 1 → -1000 ≤ F p j ∧ F p j ≤ 1000) :
    MR m5_product d shX [rv 1, iv r, rv p] I F (dt (F 2) (F p) r (I 1 1).toNat) := by
  refine MS_of (ls := [lr 1, li r, lr p, lu, lu]) f5_product rfl rfl (Nat.le_of_ble_eq_true rfl) ?_
  refine w_const i5_product_0 ?_
  refine w_is3 i5_product_1 ?_
  refine w_const i5_product_2 ?_
  refine w_is4 i5_product_3 ?_
  refine l5_product hd hr hn hM hp hN hv ?_ (I 1 1).toNat 0 (by omega)
  refine w_iload i5_product_35 rfl ?_
  refine w_iret i5_product_36 (Or.inl rfl) ⟨Nat.le_refl _, Nat.le_refl _⟩ ?_
  exact ⟨rfl, rfl, rfl, rfl⟩
theorem s5_minor {d : Nat} {I : IE} {F : FE} {a b : Int} (hd : 1 ≤ d) (ha : 0 ≤ a ∧ a ≤ 3) (hb : 0 ≤ b ∧ b ≤ 3) (hM : ∀ j, 0 ≤ F 2 j ∧ F 2 j ≤ 3) : MR m5_minor d shX [rv 1, iv a, iv b] I F (F 2 a * F 2 (4 + b) - F 2 (4 + a) * F 2 b) := by
  have h1 := mulb (hM a) (b := F 2 (4 + b)) (B := 3) (by have := hM (4 + b); omega)
  have h2 := mulb (hM (4 + a)) (b := F 2 b) (B := 3) (by have := hM b; omega)
  have e1 : (0 : Int) * 4 + a = a := by omega
  have e2 : (0 : Int) * 4 + b = b := by omega
  have e3 : (1 : Int) * 4 + a = 4 + a := by omega
  have e4 : (1 : Int) * 4 + b = 4 + b := by omega
  refine MS_of (ls := [lr 1, li a, li b]) f5_minor rfl rfl (Nat.le_of_ble_eq_true rfl) ?_
  refine w_aload i5_minor_0 rfl ?_
  refine w_const i5_minor_1 ?_
  refine w_iload i5_minor_2 rfl ?_
  refine w_cVR i5_minor_3 f5_at v5_at (s5_at (by omega) (by omega)) rfl rfl (by decide) rfl rfl (Nat.le_of_ble_eq_true rfl) (by omega) ?_
  rw [e1]
  refine w_aload i5_minor_6 rfl ?_
  refine w_const i5_minor_7 ?_
  refine w_iload i5_minor_8 rfl ?_
  refine w_cVR i5_minor_9 f5_at v5_at (s5_at (by omega) (by omega)) rfl rfl (by decide) rfl rfl (Nat.le_of_ble_eq_true rfl) (by omega) ?_
  rw [e4]
  refine w_imul i5_minor_12 (by omega) ?_
  refine w_aload i5_minor_13 rfl ?_
  refine w_const i5_minor_14 ?_
  refine w_iload i5_minor_15 rfl ?_
  refine w_cVR i5_minor_16 f5_at v5_at (s5_at (by omega) (by omega)) rfl rfl (by decide) rfl rfl (Nat.le_of_ble_eq_true rfl) (by omega) ?_
  rw [e3]
  refine w_aload i5_minor_19 rfl ?_
  refine w_const i5_minor_20 ?_
  refine w_iload i5_minor_21 rfl ?_
  refine w_cVR i5_minor_22 f5_at v5_at (s5_at (by omega) (by omega)) rfl rfl (by decide) rfl rfl (Nat.le_of_ble_eq_true rfl) (by omega) ?_
  rw [e2]
  refine w_imul i5_minor_25 (by omega) ?_
  refine w_isub i5_minor_26 (by omega) ?_
  refine w_iret i5_minor_27 (Or.inl rfl) ⟨Nat.le_refl _, Nat.le_refl _⟩ ?_
  exact ⟨rfl, rfl, rfl, rfl⟩
/-- the first k entries of the matrix are 0 -/
def zf2 (F : FE) (k : Int) : FE := fun b j => if b = 2 ∧ 0 ≤ j ∧ j < k then 0 else F b j
def zf34 (F : FE) (k : Int) : FE := fun b j => if (b = 3 ∨ b = 4) ∧ 0 ≤ j ∧ j < k then 0 else F b j
theorem l5_reshape2 {d n0 : Nat} {Q : PQ} {I : IE} {F : FE} {a b : Int}
    (K : WS m5_reshape d 0 0 n0 Q 0 0 69 [lr 1, li a, li b, li 8] [] shX I (zf2 F 8)) :
    ∀ (m k : Nat) (F' : FE), k + m = 8 → F' = zf2 F k → WS m5_reshape d 0 0 n0 Q 0 0 47 [lr 1, li a, li b, li k] [] shX I F' := by
  intro m
  induction m with
  | zero =>
    intro k F' hk hF
    obtain rfl : k = 8 := by omega
    subst hF
    refine w_iload i5_reshape_47 rfl ?_
    refine w_aload i5_reshape_48 rfl ?_
    refine w_getr i5_reshape_49 rfl rfl ?_
    refine w_alen i5_reshape_52 rfl (by decide) ?_
    refine w_icmpge i5_reshape_53 (fun h53 => ?_) (fun h_ => absurd h_ (by omega))
    exact K
  | succ m ih =>
    intro k F' hk hF
    subst hF
    refine w_iload i5_reshape_47 rfl ?_
    refine w_aload i5_reshape_48 rfl ?_
    refine w_getr i5_reshape_49 rfl rfl ?_
    refine w_alen i5_reshape_52 rfl (by decide) ?_
    refine w_icmpge i5_reshape_53 (fun h_ => absurd h_ (by omega)) (fun h53 => ?_)
    refine w_aload i5_reshape_56 rfl ?_
    refine w_getr i5_reshape_57 rfl rfl ?_
    refine w_iload i5_reshape_60 rfl ?_
    refine w_const i5_reshape_61 ?_
    refine w_iast i5_reshape_62 rfl (by omega) ?_
    refine w_ii3 i5_reshape_63 (by omega) ?_
    refine w_goto i5_reshape_66 ?_
    refine ih (k + 1) _ (by omega) ?_
    funext b j
    simp only [upF, zf2]
    (repeat' split) <;> first | rfl | omega
theorem l5_reshape1 {d n0 : Nat} {Q : PQ} {I : IE} {F : FE} {a b : Int}
    (K : WS m5_reshape d 0 0 n0 Q 0 0 35 [lr 1, li a, li b, li 4] [] shX I (zf34 F 4)) :
    ∀ (m k : Nat) (F' : FE), k + m = 4 → F' = zf34 F k → WS m5_reshape d 0 0 n0 Q 0 0 10 [lr 1, li a, li b, li k] [] shX I F' := by
  intro m
  induction m with
  | zero =>
    intro k F' hk hF
    obtain rfl : k = 4 := by omega
    subst hF
    refine w_iload i5_reshape_10 rfl ?_
    refine w_const i5_reshape_11 ?_
    refine w_icmpge i5_reshape_12 (fun h12 => ?_) (fun h_ => absurd h_ (by omega))
    exact K
  | succ m ih =>
    intro k F' hk hF
    subst hF
    refine w_iload i5_reshape_10 rfl ?_
    refine w_const i5_reshape_11 ?_
    refine w_icmpge i5_reshape_12 (fun h_ => absurd h_ (by omega)) (fun h12 => ?_)
    refine w_aload i5_reshape_15 rfl ?_
    refine w_getr i5_reshape_16 rfl rfl ?_
    refine w_iload i5_reshape_19 rfl ?_
    refine w_const i5_reshape_20 ?_
    refine w_iast i5_reshape_21 rfl (by omega) ?_
    refine w_aload i5_reshape_22 rfl ?_
    refine w_getr i5_reshape_23 rfl rfl ?_
    refine w_iload i5_reshape_26 rfl ?_
    refine w_const i5_reshape_27 ?_
    refine w_iast i5_reshape_28 rfl (by omega) ?_
    refine w_ii3 i5_reshape_29 (by omega) ?_
    refine w_goto i5_reshape_32 ?_
    refine ih (k + 1) _ (by omega) ?_
    funext b j
    simp only [upF, zf34]
    (repeat' split) <;> first | rfl | omega
theorem s5_reshape {d : Nat} {I : IE} {F : FE} {a b : Int} : MU m5_reshape d shX [rv 1, iv a, iv b] I F (fun I' F' => I' = upI (upI I 1 0 a) 1 1 b ∧ F' = zf2 (if I 1 1 = b then F else zf34 F 4) 8) := by
  have K : ∀ x F0, WS m5_reshape d 0 0 shX.length (fun r sh' I' F' => sh' = shX ∧ r = none ∧ I' = upI (upI I 1 0 a) 1 1 b ∧ F' = zf2 F0 8) 0 0 35 [lr 1, li a, li b, x] [] shX I F0 := by
    intro x F0
    refine w_aload i5_reshape_35 rfl ?_
    refine w_iload i5_reshape_36 rfl ?_
    refine w_put i5_reshape_37 rfl rfl (Or.inl rfl) ?_
    refine w_aload i5_reshape_40 rfl ?_
    refine w_iload i5_reshape_41 rfl ?_
    refine w_put i5_reshape_42 rfl rfl (Or.inl rfl) ?_
    refine w_const i5_reshape_45 ?_
    refine w_is3 i5_reshape_46 ?_
    refine l5_reshape2 (F := F0) ?_ 8 0 _ (by omega) (by funext b j; simp only [zf2]; rw [if_neg (by omega)])
    refine w_vret i5_reshape_69 rfl ⟨Nat.le_refl _, Nat.le_refl _⟩ ?_
    exact ⟨rfl, rfl, rfl, rfl⟩
  refine MS_of (ls := [lr 1, li a, li b, lu]) f5_reshape rfl rfl (Nat.le_of_ble_eq_true rfl) ?_
  refine w_aload i5_reshape_0 rfl ?_
  refine w_get i5_reshape_1 rfl rfl ?_
  refine w_iload i5_reshape_4 rfl ?_
  refine w_icmpeq i5_reshape_5 (fun h5 => ?_) (fun h5 => ?_)
  · rw [if_pos h5]
    exact K _ _
  · refine w_const i5_reshape_8 ?_
    refine w_is3 i5_reshape_9 ?_
    refine l5_reshape1 (F := F) ?_ 4 0 _ (by omega) (by funext b j; simp only [zf34]; rw [if_neg (by omega)])
    rw [if_neg h5]
    exact K _ _
/-- ones in the cells ahead of (r, c) in the order of rows, within rows and columns -/
def of2 (F : FE) (n r c : Int) : FE := fun b j => if b = 2 ∧ 0 ≤ j ∧ j < 8 ∧ j % 4 < n ∧ (j / 4 < r ∨ j / 4 = r ∧ j % 4 < c) then 1 else F b j
theorem l5_fill1 {d n0 : Nat} {Q : PQ} {I : IE} {F : FE} {r : Int} (hd : 1 ≤ d) (hn : 0 ≤ I 1 1 ∧ I 1 1 ≤ 4) (hr : 0 ≤ r ∧ r ≤ 1)
    (K : WS m5_fillWithOnes d 0 0 n0 Q 0 0 33 [lr 1, li r, li (I 1 1)] [] shX I (of2 F (I 1 1) r (I 1 1))) :
    ∀ (m k : Nat) (F' : FE), (k + m : Int) = I 1 1 → F' = of2 F (I 1 1) r k → WS m5_fillWithOnes d 0 0 n0 Q 0 0 12 [lr 1, li r, li k] [] shX I F' := by
  intro m
  induction m with
  | zero =>
    intro k F' hk hF
    have e : (k : Int) = I 1 1 := by omega
    subst hF
    rw [e]
    refine w_iload i5_fillWithOnes_12 rfl ?_
    refine w_aload i5_fillWithOnes_13 rfl ?_
    refine w_get i5_fillWithOnes_14 rfl rfl ?_
    refine w_icmpge i5_fillWithOnes_17 (fun h17 => ?_) (fun h_ => absurd h_ (by omega))
    exact K
  | succ m ih =>
    intro k F' hk hF
    subst hF
    refine w_iload i5_fillWithOnes_12 rfl ?_
    refine w_aload i5_fillWithOnes_13 rfl ?_
    refine w_get i5_fillWithOnes_14 rfl rfl ?_
    refine w_icmpge i5_fillWithOnes_17 (fun h_ => absurd h_ (by omega)) (fun h17 => ?_)
    refine w_aload i5_fillWithOnes_20 rfl ?_
    refine w_iload i5_fillWithOnes_21 rfl ?_
    refine w_iload i5_fillWithOnes_22 rfl ?_
    refine w_const i5_fillWithOnes_23 ?_
    refine w_cVU i5_fillWithOnes_24 f5_put v5_put (s5_put hr (by omega)) rfl rfl (by decide) rfl rfl (Nat.le_of_ble_eq_true rfl) (by omega) (fun I' F' hq => ?_)
    obtain ⟨rfl, rfl⟩ := hq
    refine w_ii2 i5_fillWithOnes_27 (by omega) ?_
    refine w_goto i5_fillWithOnes_30 ?_
    refine ih (k + 1) _ (by omega) ?_
    funext b j
    simp only [upF, of2]
    (repeat' split) <;> first | rfl | omega
theorem l5_fill2 {d n0 : Nat} {Q : PQ} {I : IE} {F : FE} {x : Option AV} (hd : 1 ≤ d) (hn : 0 ≤ I 1 1 ∧ I 1 1 ≤ 4) (hr : 0 ≤ I 1 0 ∧ I 1 0 ≤ 2)
    (K : ∀ x, WS m5_fillWithOnes d 0 0 n0 Q 0 0 39 [lr 1, li (I 1 0), x] [] shX I (of2 F (I 1 1) (I 1 0) 0)) :
    ∀ (m k : Nat) (F' : FE) (x : Option AV), (k + m : Int) = I 1 0 → F' = of2 F (I 1 1) k 0 → WS m5_fillWithOnes d 0 0 n0 Q 0 0 2 [lr 1, li k, x] [] shX I F' := by
  intro m
  induction m with
  | zero =>
    intro k F' x hk hF
    have e : (k : Int) = I 1 0 := by omega
    subst hF
    rw [e]
    refine w_iload i5_fillWithOnes_2 rfl ?_
    refine w_aload i5_fillWithOnes_3 rfl ?_
    refine w_get i5_fillWithOnes_4 rfl rfl ?_
    refine w_icmpge i5_fillWithOnes_7 (fun h7 => ?_) (fun h_ => absurd h_ (by omega))
    exact K x
  | succ m ih =>
    intro k F' x hk hF
    subst hF
    refine w_iload i5_fillWithOnes_2 rfl ?_
    refine w_aload i5_fillWithOnes_3 rfl ?_
    refine w_get i5_fillWithOnes_4 rfl rfl ?_
    refine w_icmpge i5_fillWithOnes_7 (fun h_ => absurd h_ (by omega)) (fun h7 => ?_)
    refine w_const i5_fillWithOnes_10 ?_
    refine w_is2 i5_fillWithOnes_11 ?_
    refine l5_fill1 (F := F) (r := k) hd hn (by omega) ?_ (I 1 1).toNat 0 _ (by omega) rfl
    refine w_ii1 i5_fillWithOnes_33 (by omega) ?_
    refine w_goto i5_fillWithOnes_36 ?_
    refine ih (k + 1) _ _ (by omega) ?_
    funext b j
    simp only [of2]
    (repeat' split) <;> first | rfl | omega
theorem s5_fillWithOnes {d : Nat} {I : IE} {F : FE} (hd : 1 ≤ d) (hn : 0 ≤ I 1 1 ∧ I 1 1 ≤ 4) (hr : 0 ≤ I 1 0 ∧ I 1 0 ≤ 2) : MU m5_fillWithOnes d shX [rv 1] I F (fun I' F' => I' = I ∧ F' = of2 F (I 1 1) (I 1 0) 0) := by
  refine MS_of (ls := [lr 1, lu, lu]) f5_fillWithOnes rfl rfl (Nat.le_of_ble_eq_true rfl) ?_
  refine w_const i5_fillWithOnes_0 ?_
  refine w_is1 i5_fillWithOnes_1 ?_
  refine l5_fill2 (x := lu) (F := F) hd hn hr ?_ (I 1 0).toNat 0 _ _ (by omega) (by funext b j; simp only [of2]; rw [if_neg (by omega)])
  intro x
  refine w_vret i5_fillWithOnes_39 rfl ⟨Nat.le_refl _, Nat.le_refl _⟩ ?_
  exact ⟨rfl, rfl, rfl, rfl⟩
