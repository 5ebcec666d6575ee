def mnr (M : Int → Int) (a b : Int) : Int := M a * M (4 + b) - M (4 + a) * M b
def PV0 (M : Int → Int) (n : Int) (I : IE) : Prop := I 42 1 = 0 ∧ I 42 4 = 1 ∧ I 42 5 = -1 ∧ I 42 6 = -1 ∧ I 42 8 = 0 ∧ ∀ c, 0 ≤ c ∧ c < n → M c = 0 ∧ M (4 + c) = 0
def PV1 (M : Int → Int) (n : Int) (I : IE) : Prop := I 42 1 = 1 ∧ I 42 4 = 3 ∧ I 42 6 = -1 ∧ (0 ≤ I 42 7 ∧ I 42 7 ≤ 1) ∧ (0 ≤ I 42 5 ∧ I 42 5 < n) ∧ I 42 8 = M (I 42 7 * 4 + I 42 5) ∧ I 42 8 ≠ 0
def PV2 (M : Int → Int) (n : Int) (I : IE) : Prop := I 42 1 = 2 ∧ I 42 4 = 9 ∧ 0 ≤ I 42 5 ∧ I 42 5 < I 42 6 ∧ I 42 6 < n ∧ I 42 8 = mnr M (I 42 5) (I 42 6) ∧ I 42 8 ≠ 0
def PVs (M : Int → Int) (n : Int) (I : IE) : Prop := PV0 M n I ∨ (PV1 M n I ∧ ∀ a b, 0 ≤ a ∧ a < b ∧ b < n → mnr M a b = 0) ∨ PV2 M n I
def Pfr (I I' : IE) : Prop := ∀ a k, (a ≠ 42 ∨ k = 0 ∨ k = 2 ∨ k = 3 ∨ 9 ≤ k) → I' a k = I a k
theorem Pfr.p1 {I I' : IE} {r c v : Int} (h : Pfr I I') : Pfr I (upI (upI (upI (upI (upI I' 42 1 1) 42 4 3) 42 7 r) 42 5 c) 42 8 v) := fun a k hk => by
  rw [← h a k hk]
  simp only [upI]
  (repeat' split) <;> first | rfl | omega
theorem Pfr.p2 {I I' : IE} {r c v : Int} (h : Pfr I I') : Pfr I (upI (upI (upI (upI (upI I' 42 1 2) 42 4 9) 42 5 r) 42 6 c) 42 8 v) := fun a k hk => by
  rw [← h a k hk]
  simp only [upI]
  (repeat' split) <;> first | rfl | omega
theorem l2_cpA1 {d n0 : Nat} {Q : PQ} {I : IE} {F : FE} {c : Int} (hd : 1 ≤ d) (hn : 0 ≤ I 42 3 ∧ I 42 3 ≤ 4) (hc : 0 ≤ c ∧ c < I 42 3) (hM : ∀ j, 0 ≤ F 2 j ∧ F 2 j ≤ 3)
    (K : ∀ x I', Pfr I I' → (PV0 (F 2) (c + 1) I' ∨ PV1 (F 2) (I 42 3) I') → WS m2_choosePivots d 0 0 n0 Q 0 0 69 [lr 42, lr 1, li c, x] [] shX I' F) :
    ∀ (m k : Nat) (I' : IE), k + m = 2 → Pfr I I' → ((PV0 (F 2) c I' ∧ ∀ r, 0 ≤ r ∧ r < (k : Int) → F 2 (r * 4 + c) = 0) ∨ PV1 (F 2) (I 42 3) I') → WS m2_choosePivots d 0 0 n0 Q 0 0 37 [lr 42, lr 1, li c, li k] [] shX I' F := by
  intro m
  induction m with
  | zero =>
    intro k I' hk hf hP
    obtain rfl : k = 2 := by omega
    refine w_iload i2_choosePivots_37 rfl ?_
    refine w_const i2_choosePivots_38 ?_
    refine w_icmpge i2_choosePivots_39 (fun h39 => ?_) (fun h_ => absurd h_ (by omega))
    refine K _ I' hf ?_
    rcases hP with ⟨h1, h2⟩ | h1
    · refine Or.inl ⟨h1.1, h1.2.1, h1.2.2.1, h1.2.2.2.1, h1.2.2.2.2.1, fun c' hc' => ?_⟩
      by_cases h : c' = c
      · subst h
        have g0 := h2 0 (by decide)
        have g1 := h2 1 (by decide)
        rw [show (0 : Int) * 4 + c' = c' by omega] at g0
        rw [show (1 : Int) * 4 + c' = 4 + c' by omega] at g1
        exact ⟨g0, g1⟩
      · exact h1.2.2.2.2.2 c' (by omega)
    · exact Or.inr h1
  | succ m ih =>
    intro k I' hk hf hP
    refine w_iload i2_choosePivots_37 rfl ?_
    refine w_const i2_choosePivots_38 ?_
    refine w_icmpge i2_choosePivots_39 (fun h_ => absurd h_ (by omega)) (fun h39 => ?_)
    refine w_aload i2_choosePivots_42 rfl ?_
    refine w_iload i2_choosePivots_43 rfl ?_
    refine w_iload i2_choosePivots_44 rfl ?_
    refine w_cVR i2_choosePivots_45 f5_at v5_at (s5_at (by omega) (by omega)) rfl rfl (by decide) rfl rfl (Nat.le_of_ble_eq_true rfl) (by omega) ?_
    refine w_ifeq i2_choosePivots_48 (fun h48 => ?_) (fun h48 => ?_)
    · refine w_ii3 i2_choosePivots_63 (by omega) ?_
      refine w_goto i2_choosePivots_66 ?_
      first
      | (have h48' : F 2 (k * 4 + c) = 0 := h48
         refine ih (k + 1) _ (by omega) hf ?_
         rcases hP with ⟨h1, h2⟩ | h1
         · refine Or.inl ⟨h1, fun r hr => ?_⟩
           by_cases h : r = k
           · subst h; exact h48
           · exact h2 r (by omega)
         · exact Or.inr h1)
      | (refine ih (k + 1) _ (by omega) hf.p1 (Or.inr ⟨by simp [upI], by simp [upI], ?_, by simp [upI]; omega, by simp [upI]; omega, by simp [upI], by simp [upI]; exact h48⟩)
         simp only [upI]
         rcases hP with ⟨h1, -⟩ | h1
         · exact h1.2.2.2.1
         · exact h1.2.2.1)
    · refine w_aload i2_choosePivots_51 rfl ?_
      refine w_iload i2_choosePivots_52 rfl ?_
      refine w_iload i2_choosePivots_53 rfl ?_
      refine w_aload i2_choosePivots_54 rfl ?_
      refine w_iload i2_choosePivots_55 rfl ?_
      refine w_iload i2_choosePivots_56 rfl ?_
      refine w_cVR i2_choosePivots_57 f5_at v5_at (s5_at (by omega) (by omega)) rfl rfl (by decide) rfl rfl (Nat.le_of_ble_eq_true rfl) (by omega) ?_
      refine w_cVU i2_choosePivots_60 f2_takePivot v2_takePivot s2_takePivot rfl rfl (by decide) rfl rfl (Nat.le_of_ble_eq_true rfl) (by omega) (fun I' F' hq => ?_)
      obtain ⟨rfl, rfl⟩ := hq
      refine w_ii3 i2_choosePivots_63 (by omega) ?_
      refine w_goto i2_choosePivots_66 ?_
      first
      | (have h48' : F 2 (k * 4 + c) = 0 := h48
         refine ih (k + 1) _ (by omega) hf ?_
         rcases hP with ⟨h1, h2⟩ | h1
         · refine Or.inl ⟨h1, fun r hr => ?_⟩
           by_cases h : r = k
           · subst h; exact h48
           · exact h2 r (by omega)
         · exact Or.inr h1)
      | (refine ih (k + 1) _ (by omega) hf.p1 (Or.inr ⟨by simp [upI], by simp [upI], ?_, by simp [upI]; omega, by simp [upI]; omega, by simp [upI], by simp [upI]; exact h48⟩)
         simp only [upI]
         rcases hP with ⟨h1, -⟩ | h1
         · exact h1.2.2.2.1
         · exact h1.2.2.1)
theorem l2_cpA {d n0 : Nat} {Q : PQ} {I : IE} {F : FE} (hd : 1 ≤ d) (hn : 0 ≤ I 42 3 ∧ I 42 3 ≤ 4) (hM : ∀ j, 0 ≤ F 2 j ∧ F 2 j ≤ 3)
    (K : ∀ x y I', Pfr I I' → (PV0 (F 2) (I 42 3) I' ∨ PV1 (F 2) (I 42 3) I') → WS m2_choosePivots d 0 0 n0 Q 0 0 75 [lr 42, lr 1, x, y] [] shX I' F) :
    ∀ (m k : Nat) (x : Option AV) (I' : IE), (k + m : Int) = I 42 3 → Pfr I I' → (PV0 (F 2) k I' ∨ PV1 (F 2) (I 42 3) I') → WS m2_choosePivots d 0 0 n0 Q 0 0 27 [lr 42, lr 1, li k, x] [] shX I' F := by
  intro m
  induction m with
  | zero =>
    intro k x I' hk hf hP
    have ek : (k : Int) = I 42 3 := by omega
    have e3 := hf 42 3 (by omega)
    rw [ek] at hP
    refine w_iload i2_choosePivots_27 rfl ?_
    refine w_aload i2_choosePivots_28 rfl ?_
    refine w_get i2_choosePivots_29 rfl rfl ?_
    refine w_icmpge i2_choosePivots_32 (fun h32 => ?_) (fun h_ => absurd h_ (by omega))
    exact K _ _ I' hf hP
  | succ m ih =>
    intro k x I' hk hf hP
    have e3 := hf 42 3 (by omega)
    refine w_iload i2_choosePivots_27 rfl ?_
    refine w_aload i2_choosePivots_28 rfl ?_
    refine w_get i2_choosePivots_29 rfl rfl ?_
    refine w_icmpge i2_choosePivots_32 (fun h_ => absurd h_ (by omega)) (fun h32 => ?_)
    refine w_const i2_choosePivots_35 ?_
    refine w_is3 i2_choosePivots_36 ?_
    refine l2_cpA1 (I := I) (F := F) (c := k) hd hn (by omega) hM (fun x I2 hf2 hP2 => ?_) 2 0 I' (by decide) hf ?_
    · refine w_ii2 i2_choosePivots_69 (by omega) ?_
      refine w_goto i2_choosePivots_72 ?_
      exact ih (k + 1) _ I2 (by omega) hf2 hP2
    · rcases hP with h | h
      · exact Or.inl ⟨h, fun r hr => absurd hr (by omega)⟩
      · exact Or.inr h
theorem l2_cpB1 {d n0 : Nat} {Q : PQ} {I : IE} {F : FE} {a : Int} (hd : 2 ≤ d) (hn : 0 ≤ I 42 3 ∧ I 42 3 ≤ 4) (ha : 0 ≤ a ∧ a < I 42 3) (hM : ∀ j, 0 ≤ F 2 j ∧ F 2 j ≤ 3)
    (K : ∀ x I', Pfr I I' → (((PV0 (F 2) (I 42 3) I' ∨ PV1 (F 2) (I 42 3) I') ∧ ∀ p q, 0 ≤ p ∧ p < q ∧ q < I 42 3 → p < a + 1 → mnr (F 2) p q = 0) ∨ PV2 (F 2) (I 42 3) I') → WS m2_choosePivots d 0 0 n0 Q 0 0 124 [lr 42, lr 1, li a, x] [] shX I' F) :
    ∀ (m k : Nat) (I' : IE), (k + m : Int) = I 42 3 → a < k → Pfr I I' → (((PV0 (F 2) (I 42 3) I' ∨ PV1 (F 2) (I 42 3) I') ∧ ∀ p q, 0 ≤ p ∧ p < q ∧ q < I 42 3 → (p < a ∨ p = a ∧ q < k) → mnr (F 2) p q = 0) ∨ PV2 (F 2) (I 42 3) I') → WS m2_choosePivots d 0 0 n0 Q 0 0 89 [lr 42, lr 1, li a, li k] [] shX I' F := by
  intro m
  induction m with
  | zero =>
    intro k I' hk hak hf hP
    have ek : (k : Int) = I 42 3 := by omega
    have e3 := hf 42 3 (by omega)
    refine w_iload i2_choosePivots_89 rfl ?_
    refine w_aload i2_choosePivots_90 rfl ?_
    refine w_get i2_choosePivots_91 rfl rfl ?_
    refine w_icmpge i2_choosePivots_94 (fun h94 => ?_) (fun h_ => absurd h_ (by omega))
    refine K _ I' hf ?_
    rcases hP with ⟨h1, h2⟩ | h1
    · exact Or.inl ⟨h1, fun p q hpq hp => h2 p q hpq (by omega)⟩
    · exact Or.inr h1
  | succ m ih =>
    intro k I' hk hak hf hP
    have e3 := hf 42 3 (by omega)
    refine w_iload i2_choosePivots_89 rfl ?_
    refine w_aload i2_choosePivots_90 rfl ?_
    refine w_get i2_choosePivots_91 rfl rfl ?_
    refine w_icmpge i2_choosePivots_94 (fun h_ => absurd h_ (by omega)) (fun h94 => ?_)
    refine w_aload i2_choosePivots_97 rfl ?_
    refine w_iload i2_choosePivots_98 rfl ?_
    refine w_iload i2_choosePivots_99 rfl ?_
    refine w_cVR i2_choosePivots_100 f5_minor v5_minor (s5_minor (by omega) (by omega) (by omega) hM) rfl rfl (by decide) rfl rfl (Nat.le_of_ble_eq_true rfl) (by omega) ?_
    refine w_ifeq i2_choosePivots_103 (fun h103 => ?_) (fun h103 => ?_)
    · refine w_ii3 i2_choosePivots_118 (by omega) ?_
      refine w_goto i2_choosePivots_121 ?_
      first
      | (have h103' : F 2 a * F 2 (4 + k) - F 2 (4 + a) * F 2 k = 0 := h103
         refine ih (k + 1) _ (by omega) (by omega) hf ?_
         rcases hP with ⟨h1, h2⟩ | h1
         · refine Or.inl ⟨h1, fun p q hpq hp => ?_⟩
           by_cases h : p = a ∧ q = k
           · obtain ⟨rfl, rfl⟩ := h; exact h103
           · exact h2 p q hpq (by omega)
         · exact Or.inr h1)
      | (refine ih (k + 1) _ (by omega) (by omega) hf.p2 (Or.inr ⟨by simp [upI], by simp [upI], by simp [upI]; omega, by simp [upI]; omega, by simp [upI]; omega, by simp [upI]; rfl, by simp [upI]; exact h103⟩))
    · refine w_aload i2_choosePivots_106 rfl ?_
      refine w_iload i2_choosePivots_107 rfl ?_
      refine w_iload i2_choosePivots_108 rfl ?_
      refine w_aload i2_choosePivots_109 rfl ?_
      refine w_iload i2_choosePivots_110 rfl ?_
      refine w_iload i2_choosePivots_111 rfl ?_
      refine w_cVR i2_choosePivots_112 f5_minor v5_minor (s5_minor (by omega) (by omega) (by omega) hM) rfl rfl (by decide) rfl rfl (Nat.le_of_ble_eq_true rfl) (by omega) ?_
      refine w_cVU i2_choosePivots_115 f2_takePivots v2_takePivots s2_takePivots rfl rfl (by decide) rfl rfl (Nat.le_of_ble_eq_true rfl) (by omega) (fun I' F' hq => ?_)
      obtain ⟨rfl, rfl⟩ := hq
      refine w_ii3 i2_choosePivots_118 (by omega) ?_
      refine w_goto i2_choosePivots_121 ?_
      first
      | (have h103' : F 2 a * F 2 (4 + k) - F 2 (4 + a) * F 2 k = 0 := h103
         refine ih (k + 1) _ (by omega) (by omega) hf ?_
         rcases hP with ⟨h1, h2⟩ | h1
         · refine Or.inl ⟨h1, fun p q hpq hp => ?_⟩
           by_cases h : p = a ∧ q = k
           · obtain ⟨rfl, rfl⟩ := h; exact h103
           · exact h2 p q hpq (by omega)
         · exact Or.inr h1)
      | (refine ih (k + 1) _ (by omega) (by omega) hf.p2 (Or.inr ⟨by simp [upI], by simp [upI], by simp [upI]; omega, by simp [upI]; omega, by simp [upI]; omega, by simp [upI]; rfl, by simp [upI]; exact h103⟩))
theorem l2_cpB {d n0 : Nat} {Q : PQ} {I : IE} {F : FE} (hd : 2 ≤ d) (hn : 0 ≤ I 42 3 ∧ I 42 3 ≤ 4) (hM : ∀ j, 0 ≤ F 2 j ∧ F 2 j ≤ 3)
    (K : ∀ x y I', Pfr I I' → PVs (F 2) (I 42 3) I' → WS m2_choosePivots d 0 0 n0 Q 0 0 130 [lr 42, lr 1, x, y] [] shX I' F) :
    ∀ (m k : Nat) (x : Option AV) (I' : IE), (k + m : Int) = I 42 3 → Pfr I I' → (((PV0 (F 2) (I 42 3) I' ∨ PV1 (F 2) (I 42 3) I') ∧ ∀ p q, 0 ≤ p ∧ p < q ∧ q < I 42 3 → p < k → mnr (F 2) p q = 0) ∨ PV2 (F 2) (I 42 3) I') → WS m2_choosePivots d 0 0 n0 Q 0 0 77 [lr 42, lr 1, li k, x] [] shX I' F := by
  intro m
  induction m with
  | zero =>
    intro k x I' hk hf hP
    have ek : (k : Int) = I 42 3 := by omega
    have e3 := hf 42 3 (by omega)
    refine w_iload i2_choosePivots_77 rfl ?_
    refine w_aload i2_choosePivots_78 rfl ?_
    refine w_get i2_choosePivots_79 rfl rfl ?_
    refine w_icmpge i2_choosePivots_82 (fun h82 => ?_) (fun h_ => absurd h_ (by omega))
    refine K _ _ I' hf ?_
    rcases hP with ⟨h1 | h1, h2⟩ | h1
    · exact Or.inl h1
    · exact Or.inr (Or.inl ⟨h1, fun p q hpq => h2 p q hpq (by omega)⟩)
    · exact Or.inr (Or.inr h1)
  | succ m ih =>
    intro k x I' hk hf hP
    have e3 := hf 42 3 (by omega)
    refine w_iload i2_choosePivots_77 rfl ?_
    refine w_aload i2_choosePivots_78 rfl ?_
    refine w_get i2_choosePivots_79 rfl rfl ?_
    refine w_icmpge i2_choosePivots_82 (fun h_ => absurd h_ (by omega)) (fun h82 => ?_)
    refine w_iload i2_choosePivots_85 rfl ?_
    refine w_const i2_choosePivots_86 ?_
    refine w_iadd i2_choosePivots_87 (by omega) ?_
    refine w_is3 i2_choosePivots_88 ?_
    refine l2_cpB1 (I := I) (F := F) (a := k) hd hn (by omega) hM (fun x I2 hf2 hP2 => ?_) m (k + 1) I' (by omega) (by omega) hf ?_
    · refine w_ii2 i2_choosePivots_124 (by omega) ?_
      refine w_goto i2_choosePivots_127 ?_
      exact ih (k + 1) _ I2 (by omega) hf2 hP2
    · rcases hP with ⟨h1, h2⟩ | h1
      · exact Or.inl ⟨h1, fun p q hpq hp => h2 p q hpq (by omega)⟩
      · exact Or.inr h1
theorem s2_choosePivots {d : Nat} {I : IE} {F : FE} (hd : 2 ≤ d) (hn : 0 ≤ I 42 3 ∧ I 42 3 ≤ 4) (hM : ∀ j, 0 ≤ F 2 j ∧ F 2 j ≤ 3) : MU m2_choosePivots d shX [rv 42, rv 1] I F (fun I' F' => F' = F ∧ Pfr I I' ∧ PVs (F 2) (I 42 3) I') := by
  refine MS_of (ls := [lr 42, lr 1, lu, lu]) f2_choosePivots rfl rfl (Nat.le_of_ble_eq_true rfl) ?_
  refine w_aload i2_choosePivots_0 rfl ?_
  refine w_const i2_choosePivots_1 ?_
  refine w_put i2_choosePivots_2 rfl rfl (Or.inl rfl) ?_
  refine w_aload i2_choosePivots_5 rfl ?_
  refine w_const i2_choosePivots_6 ?_
  refine w_put i2_choosePivots_7 rfl rfl (Or.inl rfl) ?_
  refine w_aload i2_choosePivots_10 rfl ?_
  refine w_const i2_choosePivots_11 ?_
  refine w_put i2_choosePivots_12 rfl rfl (Or.inl rfl) ?_
  refine w_aload i2_choosePivots_15 rfl ?_
  refine w_const i2_choosePivots_16 ?_
  refine w_put i2_choosePivots_17 rfl rfl (Or.inl rfl) ?_
  refine w_aload i2_choosePivots_20 rfl ?_
  refine w_const i2_choosePivots_21 ?_
  refine w_put i2_choosePivots_22 rfl rfl (Or.inl rfl) ?_
  refine w_const i2_choosePivots_25 ?_
  refine w_is2 i2_choosePivots_26 ?_
  refine l2_cpA (I := I) (F := F) (by omega) hn hM (fun x y I' hf hP => ?_) (I 42 3).toNat 0 _ _ (by omega) (fun a k hk => ?_) (Or.inl ⟨by simp [upI], by simp [upI], by simp [upI], by simp [upI], by simp [upI], fun c hc => absurd hc (by omega)⟩)
  · refine w_const i2_choosePivots_75 ?_
    refine w_is2 i2_choosePivots_76 ?_
    refine l2_cpB (I := I) (F := F) hd hn hM (fun x y I2 hf2 hP2 => ?_) (I 42 3).toNat 0 _ _ (by omega) hf (Or.inl ⟨hP, fun p q h1 h2 => absurd h1 (by omega)⟩)
    refine w_vret i2_choosePivots_130 rfl ⟨Nat.le_refl _, Nat.le_refl _⟩ ?_
    exact ⟨rfl, rfl, rfl, hf2, hP2⟩
  · simp only [upI]
    (repeat' split) <;> first | rfl | omega
/-- the columns that are no pivots, ascending: the first fc entries of g -/
def Free (g : Int → Int) (fc : Nat) (n p q : Int) : Prop := (∀ i : Int, 0 ≤ i ∧ i < fc → 0 ≤ g i ∧ g i < n ∧ g i ≠ p ∧ g i ≠ q) ∧ (∀ i j : Int, 0 ≤ i ∧ i < j ∧ j < fc → g i < g j) ∧ (∀ c, 0 ≤ c ∧ c < n → c ≠ p → c ≠ q → ∃ i : Int, 0 ≤ i ∧ i < fc ∧ g i = c)
theorem l2_lfc {d n0 : Nat} {Q : PQ} {I : IE} {F : FE} (hn : 0 ≤ I 42 3 ∧ I 42 3 ≤ 4)
    (K : ∀ (x : Option AV) (I' : IE) (F' : FE) (fc : Nat), (fc : Int) ≤ I 42 3 → I' 42 9 = (fc : Int) → (∀ a k, (a ≠ 42 ∨ k ≠ 9) → I' a k = I a k) → (∀ a, a ≠ 44 → F' a = F a) → Free (F' 44) fc (I 42 3) (I 42 5) (I 42 6) → WS m2_listFreeColumns d 0 0 n0 Q 0 0 57 [lr 42, x] [] shX I' F') :
    ∀ (m k : Nat) (I' : IE) (F' : FE) (fc : Nat), (k + m : Int) = I 42 3 → fc ≤ k → I' 42 9 = (fc : Int) → (∀ a k, (a ≠ 42 ∨ k ≠ 9) → I' a k = I a k) → (∀ a, a ≠ 44 → F' a = F a) → Free (F' 44) fc k (I 42 5) (I 42 6) → WS m2_listFreeColumns d 0 0 n0 Q 0 0 7 [lr 42, li k] [] shX I' F' := by
  intro m
  induction m with
  | zero =>
    intro k I' F' fc hk hfc h9 hI hF hP
    have ek : (k : Int) = I 42 3 := by omega
    have e3 := hI 42 3 (by omega)
    rw [ek] at hP
    refine w_iload i2_listFreeColumns_7 rfl ?_
    refine w_aload i2_listFreeColumns_8 rfl ?_
    refine w_get i2_listFreeColumns_9 rfl rfl ?_
    refine w_icmpge i2_listFreeColumns_12 (fun h12 => ?_) (fun h_ => absurd h_ (by omega))
    exact K _ I' F' fc (by omega) h9 hI hF hP
  | succ m ih =>
    intro k I' F' fc hk hfc h9 hI hF hP
    have e3 := hI 42 3 (by omega)
    have e5 := hI 42 5 (by omega)
    have e6 := hI 42 6 (by omega)
    obtain ⟨p1, p2, p3⟩ := hP
    have skip : ((k : Int) = I 42 5 ∨ (k : Int) = I 42 6) → Free (F' 44) fc ((k + 1 : Nat) : Int) (I 42 5) (I 42 6) := fun h => by
      refine ⟨fun i hi => ?_, p2, fun c hc hcp hcq => ?_⟩
      · have := p1 i hi; omega
      · have hck : c ≠ k := by omega
        exact p3 c (by omega) hcp hcq
    refine w_iload i2_listFreeColumns_7 rfl ?_
    refine w_aload i2_listFreeColumns_8 rfl ?_
    refine w_get i2_listFreeColumns_9 rfl rfl ?_
    refine w_icmpge i2_listFreeColumns_12 (fun h_ => absurd h_ (by omega)) (fun h12 => ?_)
    refine w_iload i2_listFreeColumns_15 rfl ?_
    refine w_aload i2_listFreeColumns_16 rfl ?_
    refine w_get i2_listFreeColumns_17 rfl rfl ?_
    refine w_icmpeq i2_listFreeColumns_20 (fun h20 => ?_) (fun h20 => ?_)
    · refine w_ii1 i2_listFreeColumns_51 (by omega) ?_
      refine w_goto i2_listFreeColumns_54 ?_
      first
      | (have h20' : (k : Int) = I' 42 5 := h20
         exact ih (k + 1) I' F' fc (by omega) (by omega) h9 hI hF (skip (by omega)))
      | (have h28' : (k : Int) = I' 42 6 := h28
         exact ih (k + 1) I' F' fc (by omega) (by omega) h9 hI hF (skip (by omega)))
      | (refine ih (k + 1) _ _ (fc + 1) (by omega) (by omega) (by simp [upI]; omega) (fun a k' hk' => ?_) (fun a ha => ?_) ⟨fun i hi => ?_, fun i j hij => ?_, fun c hc hcp hcq => ?_⟩
         · rw [← hI a k' hk']
           simp only [upI]
           (repeat' split) <;> first | rfl | omega
         · funext i
           simp only [upF, ha, false_and, if_false]
           rw [hF a ha]
         · simp only [upF, true_and]
           by_cases h : i = I' 42 9
           · rw [if_pos h]; omega
           · rw [if_neg h]; have := p1 i (by omega); omega
         · simp only [upF, true_and]
           rw [if_neg (by omega)]
           by_cases h : j = I' 42 9
           · rw [if_pos h]; have := p1 i (by omega); omega
           · rw [if_neg h]; exact p2 i j (by omega)
         · simp only [upF, true_and]
           by_cases h : c = k
           · exact ⟨I' 42 9, by omega, by omega, by rw [if_pos rfl]; exact h.symm⟩
           · obtain ⟨i, h1, h2, h3⟩ := p3 c (by omega) hcp hcq
             exact ⟨i, h1, by omega, by rw [if_neg (by omega)]; exact h3⟩)
    · refine w_iload i2_listFreeColumns_23 rfl ?_
      refine w_aload i2_listFreeColumns_24 rfl ?_
      refine w_get i2_listFreeColumns_25 rfl rfl ?_
      refine w_icmpeq i2_listFreeColumns_28 (fun h28 => ?_) (fun h28 => ?_)
      · refine w_ii1 i2_listFreeColumns_51 (by omega) ?_
        refine w_goto i2_listFreeColumns_54 ?_
        first
        | (have h20' : (k : Int) = I' 42 5 := h20
           exact ih (k + 1) I' F' fc (by omega) (by omega) h9 hI hF (skip (by omega)))
        | (have h28' : (k : Int) = I' 42 6 := h28
           exact ih (k + 1) I' F' fc (by omega) (by omega) h9 hI hF (skip (by omega)))
        | (refine ih (k + 1) _ _ (fc + 1) (by omega) (by omega) (by simp [upI]; omega) (fun a k' hk' => ?_) (fun a ha => ?_) ⟨fun i hi => ?_, fun i j hij => ?_, fun c hc hcp hcq => ?_⟩
           · rw [← hI a k' hk']
             simp only [upI]
             (repeat' split) <;> first | rfl | omega
           · funext i
             simp only [upF, ha, false_and, if_false]
             rw [hF a ha]
           · simp only [upF, true_and]
             by_cases h : i = I' 42 9
             · rw [if_pos h]; omega
             · rw [if_neg h]; have := p1 i (by omega); omega
           · simp only [upF, true_and]
             rw [if_neg (by omega)]
             by_cases h : j = I' 42 9
             · rw [if_pos h]; have := p1 i (by omega); omega
             · rw [if_neg h]; exact p2 i j (by omega)
           · simp only [upF, true_and]
             by_cases h : c = k
             · exact ⟨I' 42 9, by omega, by omega, by rw [if_pos rfl]; exact h.symm⟩
             · obtain ⟨i, h1, h2, h3⟩ := p3 c (by omega) hcp hcq
               exact ⟨i, h1, by omega, by rw [if_neg (by omega)]; exact h3⟩)
      · refine w_aload i2_listFreeColumns_31 rfl ?_
        refine w_getr i2_listFreeColumns_32 rfl rfl ?_
        refine w_aload i2_listFreeColumns_35 rfl ?_
        refine w_get i2_listFreeColumns_36 rfl rfl ?_
        refine w_iload i2_listFreeColumns_39 rfl ?_
        refine w_iast i2_listFreeColumns_40 rfl (by omega) ?_
        refine w_aload i2_listFreeColumns_41 rfl ?_
        refine w_dup i2_listFreeColumns_42 ?_
        refine w_get i2_listFreeColumns_43 rfl rfl ?_
        refine w_const i2_listFreeColumns_46 ?_
        refine w_iadd i2_listFreeColumns_47 ((by have := p1; omega)) ?_
        refine w_put i2_listFreeColumns_48 rfl rfl (Or.inl rfl) ?_
        refine w_ii1 i2_listFreeColumns_51 (by omega) ?_
        refine w_goto i2_listFreeColumns_54 ?_
        first
        | (have h20' : (k : Int) = I' 42 5 := h20
           exact ih (k + 1) I' F' fc (by omega) (by omega) h9 hI hF (skip (by omega)))
        | (have h28' : (k : Int) = I' 42 6 := h28
           exact ih (k + 1) I' F' fc (by omega) (by omega) h9 hI hF (skip (by omega)))
        | (refine ih (k + 1) _ _ (fc + 1) (by omega) (by omega) (by simp [upI]; omega) (fun a k' hk' => ?_) (fun a ha => ?_) ⟨fun i hi => ?_, fun i j hij => ?_, fun c hc hcp hcq => ?_⟩
           · rw [← hI a k' hk']
             simp only [upI]
             (repeat' split) <;> first | rfl | omega
           · funext i
             simp only [upF, ha, false_and, if_false]
             rw [hF a ha]
           · simp only [upF, true_and]
             by_cases h : i = I' 42 9
             · rw [if_pos h]; omega
             · rw [if_neg h]; have := p1 i (by omega); omega
           · simp only [upF, true_and]
             rw [if_neg (by omega)]
             by_cases h : j = I' 42 9
             · rw [if_pos h]; have := p1 i (by omega); omega
             · rw [if_neg h]; exact p2 i j (by omega)
           · simp only [upF, true_and]
             by_cases h : c = k
             · exact ⟨I' 42 9, by omega, by omega, by rw [if_pos rfl]; exact h.symm⟩
             · obtain ⟨i, h1, h2, h3⟩ := p3 c (by omega) hcp hcq
               exact ⟨i, h1, by omega, by rw [if_neg (by omega)]; exact h3⟩)
theorem s2_listFreeColumns {d : Nat} {I : IE} {F : FE} (hn : 0 ≤ I 42 3 ∧ I 42 3 ≤ 4) : MU m2_listFreeColumns d shX [rv 42] I F (fun I' F' => ∃ fc : Nat, (fc : Int) ≤ I 42 3 ∧ I' 42 9 = (fc : Int) ∧ (∀ a k, (a ≠ 42 ∨ k ≠ 9) → I' a k = I a k) ∧ (∀ a, a ≠ 44 → F' a = F a) ∧ Free (F' 44) fc (I 42 3) (I 42 5) (I 42 6)) := by
  refine MS_of (ls := [lr 42, lu]) f2_listFreeColumns rfl rfl (Nat.le_of_ble_eq_true rfl) ?_
  refine w_aload i2_listFreeColumns_0 rfl ?_
  refine w_const i2_listFreeColumns_1 ?_
  refine w_put i2_listFreeColumns_2 rfl rfl (Or.inl rfl) ?_
  refine w_const i2_listFreeColumns_5 ?_
  refine w_is1 i2_listFreeColumns_6 ?_
  refine l2_lfc (I := I) (F := F) hn (fun x I' F' fc h1 h2 h3 h4 h5 => ?_) (I 42 3).toNat 0 _ _ 0 (by omega) (by omega) (by simp [upI]) (fun a k hk => ?_) (fun _ _ => rfl) ⟨fun i hi => absurd hi (by omega), fun i j hi => absurd hi (by omega), fun i hi => absurd hi (by omega)⟩
  · refine w_vret i2_listFreeColumns_57 rfl ⟨Nat.le_refl _, Nat.le_refl _⟩ ?_
    exact ⟨rfl, rfl, fc, h1, h2, h3, h4, h5⟩
  · simp only [upI]
    (repeat' split) <;> first | rfl | omega
