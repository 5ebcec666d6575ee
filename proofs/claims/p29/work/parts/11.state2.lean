/-- entries out of the digits (place p), cells ahead of (r, c) -/
def ff2 (F : FE) (p : Nat) (n r c : Int) : FE := fun b j => if b = 2 ∧ 0 ≤ j ∧ j < 8 ∧ j % 4 < n ∧ (j / 4 < r ∨ j / 4 = r ∧ j % 4 < c) then F p j else F b j
/-- no column of zeros among the first n -/
def Pos (M : Int → Int) (n : Int) : Prop := ∀ j, 0 ≤ j ∧ j < n → ¬ (M j = 0 ∧ M (4 + j) = 0)
theorem l5_hnz {d n0 : Nat} {Q : PQ} {I : IE} {F : FE} (hd : 1 ≤ d) (hn : 0 ≤ I 1 1 ∧ I 1 1 ≤ 4)
    (K1 : Pos (F 2) (I 1 1) → WS m5_hasNoZeroColumn d 0 0 n0 Q 0 0 36 [lr 1, li (I 1 1)] [] shX I F) (K0 : ∀ x, ¬ Pos (F 2) (I 1 1) → WS m5_hasNoZeroColumn d 0 0 n0 Q 0 0 28 [lr 1, x] [] shX I F) :
    ∀ (m k : Nat), (k + m : Int) = I 1 1 → Pos (F 2) k → WS m5_hasNoZeroColumn d 0 0 n0 Q 0 0 2 [lr 1, li k] [] shX I F := by
  intro m
  induction m with
  | zero =>
    intro k hk hP
    have e : (k : Int) = I 1 1 := by omega
    rw [e] at hP ⊢
    refine w_iload i5_hasNoZeroColumn_2 rfl ?_
    refine w_aload i5_hasNoZeroColumn_3 rfl ?_
    refine w_get i5_hasNoZeroColumn_4 rfl rfl ?_
    refine w_icmpge i5_hasNoZeroColumn_7 (fun h7 => ?_) (fun h_ => absurd h_ (by omega))
    exact K1 hP
  | succ m ih =>
    intro k hk hP
    have e0 : (0 : Int) * 4 + k = k := by omega
    have e1 : (1 : Int) * 4 + k = 4 + k := by omega
    have step : ¬ (F 2 k = 0 ∧ F 2 (4 + k) = 0) → Pos (F 2) ((k + 1 : Nat) : Int) := fun h j hj => by
      by_cases hjk : j = k
      · subst hjk; exact h
      · exact hP j (by omega)
    refine w_iload i5_hasNoZeroColumn_2 rfl ?_
    refine w_aload i5_hasNoZeroColumn_3 rfl ?_
    refine w_get i5_hasNoZeroColumn_4 rfl rfl ?_
    refine w_icmpge i5_hasNoZeroColumn_7 (fun h_ => absurd h_ (by omega)) (fun h7 => ?_)
    refine w_aload i5_hasNoZeroColumn_10 rfl ?_
    refine w_const i5_hasNoZeroColumn_11 ?_
    refine w_iload i5_hasNoZeroColumn_12 rfl ?_
    refine w_cVR i5_hasNoZeroColumn_13 f5_at v5_at (s5_at (by omega) (by omega)) rfl rfl (by decide) rfl rfl (Nat.le_of_ble_eq_true rfl) (by omega) ?_
    rw [e0]
    refine w_ifne i5_hasNoZeroColumn_16 (fun h16 => ?_) (fun h16 => ?_)
    · refine w_ii1 i5_hasNoZeroColumn_30 (by omega) ?_
      refine w_goto i5_hasNoZeroColumn_33 ?_
      exact ih (k + 1) (by omega) (step (by omega))
    · refine w_aload i5_hasNoZeroColumn_19 rfl ?_
      refine w_const i5_hasNoZeroColumn_20 ?_
      refine w_iload i5_hasNoZeroColumn_21 rfl ?_
      refine w_cVR i5_hasNoZeroColumn_22 f5_at v5_at (s5_at (by omega) (by omega)) rfl rfl (by decide) rfl rfl (Nat.le_of_ble_eq_true rfl) (by omega) ?_
      rw [e1]
      refine w_ifne i5_hasNoZeroColumn_25 (fun h25 => ?_) (fun h25 => ?_)
      · refine w_ii1 i5_hasNoZeroColumn_30 (by omega) ?_
        refine w_goto i5_hasNoZeroColumn_33 ?_
        exact ih (k + 1) (by omega) (step (by omega))
      · exact K0 _ (fun h => h k (by omega) ⟨h16, h25⟩)
theorem s5_hasNoZeroColumn {d : Nat} {I : IE} {F : FE} (hd : 1 ≤ d) (hn : 0 ≤ I 1 1 ∧ I 1 1 ≤ 4) : MP m5_hasNoZeroColumn d shX [rv 1] I F (tf (Pos (F 2) (I 1 1))) := by
  refine MS_of (ls := [lr 1, lu]) f5_hasNoZeroColumn rfl rfl (Nat.le_of_ble_eq_true rfl) ?_
  refine w_const i5_hasNoZeroColumn_0 ?_
  refine w_is1 i5_hasNoZeroColumn_1 ?_
  refine l5_hnz hd hn (fun h => ?_) (fun x h => ?_) (I 1 1).toNat 0 (by omega) (fun j hj => absurd hj (by omega))
  · refine w_const i5_hasNoZeroColumn_36 ?_
    refine w_iret i5_hasNoZeroColumn_37 (Or.inr ⟨rfl, by omega⟩) ⟨Nat.le_refl _, Nat.le_refl _⟩ ?_
    exact ⟨rfl, _, rfl, Or.inl ⟨rfl, h⟩, rfl, rfl⟩
  · refine w_const i5_hasNoZeroColumn_28 ?_
    refine w_iret i5_hasNoZeroColumn_29 (Or.inr ⟨rfl, by omega⟩) ⟨Nat.le_refl _, Nat.le_refl _⟩ ?_
    exact ⟨rfl, _, rfl, Or.inr ⟨rfl, h⟩, rfl, rfl⟩
/-- a State object stands at the place a, with its rows behind it -/
def StAt (a : Nat) : Prop := shX[a]? = some (.inr (5, [none, none, some (some (a + 1)), some (some (a + 2)), some (some (a + 3)), none])) ∧ shX[a + 1]? = some (.inl 8) ∧ shX[a + 2]? = some (.inl 4) ∧ shX[a + 3]? = some (.inl 4)
theorem st1 : StAt 1 := ⟨rfl, rfl, rfl, rfl⟩
theorem stj : ∀ j : Nat, j < 8 → StAt (7 + 4 * j)
  | 0, _ => ⟨rfl, rfl, rfl, rfl⟩
  | 1, _ => ⟨rfl, rfl, rfl, rfl⟩
  | 2, _ => ⟨rfl, rfl, rfl, rfl⟩
  | 3, _ => ⟨rfl, rfl, rfl, rfl⟩
  | 4, _ => ⟨rfl, rfl, rfl, rfl⟩
  | 5, _ => ⟨rfl, rfl, rfl, rfl⟩
  | 6, _ => ⟨rfl, rfl, rfl, rfl⟩
  | 7, _ => ⟨rfl, rfl, rfl, rfl⟩
  | n + 8, h => absurd h (by omega)
theorem s5_copyFrom {d : Nat} {I : IE} {F : FE} {a b : Nat} (hd : 1 ≤ d) (ha : StAt a) (hb : StAt b) (hab : a + 4 ≤ b ∨ b + 4 ≤ a) : MU m5_copyFrom d shX [rv a, rv b] I F (fun I' F' =>
    I' = upI (upI (upI I a 0 (I b 0)) a 1 (I b 1)) a 5 (I b 5) ∧ F' = cpF (cpF (cpF F (b + 1) 0 (a + 1) 0 8) (b + 2) 0 (a + 2) 0 4) (b + 3) 0 (a + 3) 0 4) := by
  have hba : ¬ b = a := by omega
  have e1 : upI I a 0 (I b 0) b 1 = I b 1 := by simp [upI, hba]
  have e2 : upI (upI I a 0 (I b 0)) a 1 (I b 1) b 5 = I b 5 := by simp [upI, hba]
  refine MS_of (ls := [lr a, lr b]) f5_copyFrom rfl rfl (Nat.le_of_ble_eq_true rfl) ?_
  refine w_aload i5_copyFrom_0 rfl ?_
  refine w_aload i5_copyFrom_1 rfl ?_
  refine w_get i5_copyFrom_2 hb.1 rfl ?_
  refine w_put i5_copyFrom_5 ha.1 rfl (Or.inl rfl) ?_
  refine w_aload i5_copyFrom_8 rfl ?_
  refine w_aload i5_copyFrom_9 rfl ?_
  refine w_get i5_copyFrom_10 hb.1 rfl ?_
  rw [e1]
  refine w_put i5_copyFrom_13 ha.1 rfl (Or.inl rfl) ?_
  refine w_aload i5_copyFrom_16 rfl ?_
  refine w_aload i5_copyFrom_17 rfl ?_
  refine w_get i5_copyFrom_18 hb.1 rfl ?_
  rw [e2]
  refine w_put i5_copyFrom_21 ha.1 rfl (Or.inl rfl) ?_
  refine w_aload i5_copyFrom_24 rfl ?_
  refine w_getr i5_copyFrom_25 hb.1 rfl ?_
  refine w_const i5_copyFrom_28 ?_
  refine w_aload i5_copyFrom_29 rfl ?_
  refine w_getr i5_copyFrom_30 ha.1 rfl ?_
  refine w_const i5_copyFrom_33 ?_
  refine w_aload i5_copyFrom_34 rfl ?_
  refine w_getr i5_copyFrom_35 ha.1 rfl ?_
  refine w_alen i5_copyFrom_38 ha.2.1 (by decide) ?_
  refine w_copy i5_copyFrom_39 hb.2.1 ha.2.1 (by omega) (by omega) (by omega) (Nat.le_of_ble_eq_true rfl) ?_
  refine w_aload i5_copyFrom_42 rfl ?_
  refine w_getr i5_copyFrom_43 hb.1 rfl ?_
  refine w_const i5_copyFrom_46 ?_
  refine w_aload i5_copyFrom_47 rfl ?_
  refine w_getr i5_copyFrom_48 ha.1 rfl ?_
  refine w_const i5_copyFrom_51 ?_
  refine w_aload i5_copyFrom_52 rfl ?_
  refine w_getr i5_copyFrom_53 ha.1 rfl ?_
  refine w_alen i5_copyFrom_56 ha.2.2.1 (by decide) ?_
  refine w_copy i5_copyFrom_57 hb.2.2.1 ha.2.2.1 (by omega) (by omega) (by omega) (Nat.le_of_ble_eq_true rfl) ?_
  refine w_aload i5_copyFrom_60 rfl ?_
  refine w_getr i5_copyFrom_61 hb.1 rfl ?_
  refine w_const i5_copyFrom_64 ?_
  refine w_aload i5_copyFrom_65 rfl ?_
  refine w_getr i5_copyFrom_66 ha.1 rfl ?_
  refine w_const i5_copyFrom_69 ?_
  refine w_aload i5_copyFrom_70 rfl ?_
  refine w_getr i5_copyFrom_71 ha.1 rfl ?_
  refine w_alen i5_copyFrom_74 ha.2.2.2 (by decide) ?_
  refine w_copy i5_copyFrom_75 hb.2.2.2 ha.2.2.2 (by omega) (by omega) (by omega) (Nat.le_of_ble_eq_true rfl) ?_
  refine w_vret i5_copyFrom_78 rfl ⟨Nat.le_refl _, Nat.le_refl _⟩ ?_
  exact ⟨rfl, rfl, rfl, rfl⟩
theorem sl6 : ∀ j : Nat, j < 8 → ([some (some 7), some (some 11), some (some 15), some (some 19), some (some 23), some (some 27), some (some 31), some (some 35)] : List (Option (Option Nat)))[j]? = some (some (some (7 + 4 * j))) := by decide
theorem s3_save {d : Nat} {I : IE} {F : FE} (hd : 2 ≤ d) (hc : 0 ≤ I 5 0 ∧ I 5 0 ≤ 8) (ho : 0 ≤ I 5 1 ∧ I 5 1 < 8) : MU m3_save d shX [rv 5, rv 1] I F (fun I' F' =>
    ∃ (c o : Int) (j : Nat), (I 5 0 = 8 ∧ c = 7 ∧ o = (I 5 1 + 1) % 8 ∨ I 5 0 < 8 ∧ c = I 5 0 ∧ o = I 5 1) ∧ (j : Int) = (o + c) % 8 ∧ I' 5 0 = c + 1 ∧ I' 5 1 = o ∧ (∀ k, k = 0 ∨ k = 1 ∨ k = 5 → I' (7 + 4 * j) k = I 1 k) ∧ (∀ a k, a ≠ 5 → a ≠ 7 + 4 * j → I' a k = I a k) ∧
      (∀ i, 0 ≤ i ∧ i < 8 → F' (8 + 4 * j) i = F 2 i) ∧ (∀ i, 0 ≤ i ∧ i < 4 → F' (9 + 4 * j) i = F 3 i) ∧ (∀ i, 0 ≤ i ∧ i < 4 → F' (10 + 4 * j) i = F 4 i) ∧ (∀ a, a ≠ 8 + 4 * j → a ≠ 9 + 4 * j → a ≠ 10 + 4 * j → F' a = F a)) := by
  have mid : ∀ (I1 : IE) (c o : Int), (I 5 0 = 8 ∧ c = 7 ∧ o = (I 5 1 + 1) % 8 ∨ I 5 0 < 8 ∧ c = I 5 0 ∧ o = I 5 1) → I1 5 0 = c → I1 5 1 = o → (∀ a k, a ≠ 5 → I1 a k = I a k) → WS m3_save d 0 0 shX.length (fun r sh' I' F' => sh' = shX ∧ r = none ∧ (∃ (c o : Int) (j : Nat), (I 5 0 = 8 ∧ c = 7 ∧ o = (I 5 1 + 1) % 8 ∨ I 5 0 < 8 ∧ c = I 5 0 ∧ o = I 5 1) ∧ (j : Int) = (o + c) % 8 ∧ I' 5 0 = c + 1 ∧ I' 5 1 = o ∧ (∀ k, k = 0 ∨ k = 1 ∨ k = 5 → I' (7 + 4 * j) k = I 1 k) ∧ (∀ a k, a ≠ 5 → a ≠ 7 + 4 * j → I' a k = I a k) ∧
      (∀ i, 0 ≤ i ∧ i < 8 → F' (8 + 4 * j) i = F 2 i) ∧ (∀ i, 0 ≤ i ∧ i < 4 → F' (9 + 4 * j) i = F 3 i) ∧ (∀ i, 0 ≤ i ∧ i < 4 → F' (10 + 4 * j) i = F 4 i) ∧ (∀ a, a ≠ 8 + 4 * j → a ≠ 9 + 4 * j → a ≠ 10 + 4 * j → F' a = F a))) 0 0 32 [lr 5, lr 1] [] shX I1 F := by
    intro I1 c o hco h0 h1 hI1
    have hc8 : 0 ≤ c ∧ c ≤ 7 := by omega
    have ho8 : 0 ≤ o ∧ o < 8 := by omega
    obtain ⟨j, hj⟩ : ∃ j : Nat, (j : Int) = (o + c) % 8 := ⟨((o + c) % 8).toNat, by omega⟩
    have hj8 : j < 8 := by omega
    have et : (I1 5 1 + I1 5 0).tmod 8 = (j : Int) := by rw [h0, h1, Int.tmod_eq_emod_of_nonneg (by omega), hj]
    refine w_aload i3_save_32 rfl ?_
    refine w_getr i3_save_33 rfl rfl ?_
    refine w_aload i3_save_36 rfl ?_
    refine w_get i3_save_37 rfl rfl ?_
    refine w_aload i3_save_40 rfl ?_
    refine w_get i3_save_41 rfl rfl ?_
    refine w_iadd i3_save_44 (by omega) ?_
    refine w_const i3_save_45 ?_
    refine w_irem i3_save_47 (by decide) ((by rw [et]; constructor <;> omega)) ?_
    rw [et]
    refine w_aald i3_save_48 rfl (by constructor <;> (try simp) <;> omega) (sl6 j hj8) ?_
    refine w_aload i3_save_49 rfl ?_
    refine w_cVU i3_save_50 f5_copyFrom v5_copyFrom (s5_copyFrom (by omega) (stj j hj8) st1 (by omega)) rfl (stj j hj8).1 (by decide) rfl rfl (Nat.le_of_ble_eq_true rfl) (by omega) (fun I' F' hq => ?_)
    obtain ⟨rfl, rfl⟩ := hq
    refine w_aload i3_save_53 rfl ?_
    refine w_dup i3_save_54 ?_
    refine w_get i3_save_55 rfl rfl ?_
    refine w_const i3_save_58 ?_
    refine w_iadd i3_save_59 ((by simp [upI]; omega)) ?_
    refine w_put i3_save_60 rfl rfl (Or.inl rfl) ?_
    refine w_vret i3_save_63 rfl ⟨Nat.le_refl _, Nat.le_refl _⟩ ?_
    refine ⟨rfl, rfl, c, o, j, hco, hj, ?_, ?_, ?_, ?_, ?_, ?_, ?_, ?_⟩
    · simp [upI]; omega
    · simp [upI]; omega
    · intro k hk; rcases hk with rfl | rfl | rfl <;> simp [upI] <;> (try rw [if_neg (by omega)]) <;> exact hI1 _ _ (by decide)
    · intro a k ha hb; simp [upI, ha, hb]; exact hI1 _ _ ha
    · intro i hi; simp [cpF]; (repeat' split) <;> first | rfl | omega
    · intro i hi; simp [cpF]; (repeat' split) <;> first | rfl | omega
    · intro i hi; simp [cpF]; (repeat' split) <;> first | rfl | omega
    · intro a h1 h2 h3; funext i; simp only [cpF]; (repeat' split) <;> first | rfl | omega
  refine MS_of (ls := [lr 5, lr 1]) f3_save rfl rfl (Nat.le_of_ble_eq_true rfl) ?_
  refine w_aload i3_save_0 rfl ?_
  refine w_get i3_save_1 rfl rfl ?_
  refine w_const i3_save_4 ?_
  refine w_icmpne i3_save_6 (fun h6 => ?_) (fun h6 => ?_)
  · first
    | (have h6' : I 5 0 = 8 := h6
       refine mid _ 7 _ (Or.inl ⟨h6, rfl, rfl⟩) (by simp [upI]; omega) (by simp [upI]; rw [Int.tmod_eq_emod_of_nonneg (by omega)]) (fun a k ha => by simp [upI, ha]))
    | exact mid I _ _ (Or.inr ⟨by omega, rfl, rfl⟩) rfl rfl (fun _ _ _ => rfl)
  · refine w_aload i3_save_9 rfl ?_
    refine w_aload i3_save_10 rfl ?_
    refine w_get i3_save_11 rfl rfl ?_
    refine w_const i3_save_14 ?_
    refine w_iadd i3_save_15 (by omega) ?_
    refine w_const i3_save_16 ?_
    refine w_irem i3_save_18 (by decide) ((by have := Int.tmod_eq_emod_of_nonneg (a := I 5 1 + 1) (b := 8) (by omega); rw [this]; constructor <;> omega)) ?_
    refine w_put i3_save_19 rfl rfl (Or.inl rfl) ?_
    refine w_aload i3_save_22 rfl ?_
    refine w_dup i3_save_23 ?_
    refine w_get i3_save_24 rfl rfl ?_
    refine w_const i3_save_27 ?_
    refine w_isub i3_save_28 ((by simp [upI]; omega)) ?_
    refine w_put i3_save_29 rfl rfl (Or.inl rfl) ?_
    first
    | (have h6' : I 5 0 = 8 := h6
       refine mid _ 7 _ (Or.inl ⟨h6, rfl, rfl⟩) (by simp [upI]; omega) (by simp [upI]; rw [Int.tmod_eq_emod_of_nonneg (by omega)]) (fun a k ha => by simp [upI, ha]))
    | exact mid I _ _ (Or.inr ⟨by omega, rfl, rfl⟩) rfl rfl (fun _ _ _ => rfl)
