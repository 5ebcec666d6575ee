-- the reference: place 0: 2 savedCount, 4 length, 5 count, 8 kernelCount, 10 readRows, 14 fiberCount, 19 queued; rows: 1 now, 2 saved, 3 text, 4 basis, 5 kernel, 6 z, 7 readMany, 8 readDigit, 9 fiber, 10 goal, 11 y, 12 far, 13 queue, 14 rest
def NM (M : Int → Int) (F : FE) : Prop := (∀ j, 0 ≤ j ∧ j < 8 → F 1 (2 + j) = M j) ∧ ∀ j, 0 ≤ M j ∧ M j ≤ 3
theorem r_in {d : Nat} {I : IE} {F : FE} {x a b : Int} : MP m8_in d shM [iv x, iv a, iv b] I F (tf (a ≤ x ∧ x ≤ b)) := by
  refine MS_of (ls := [li x, li a, li b]) f8_in rfl rfl (Nat.le_of_ble_eq_true rfl) ?_
  refine w_iload i8_in_0 rfl ?_
  refine w_iload i8_in_1 rfl ?_
  refine w_icmplt i8_in_2 (fun h2 => ?_) (fun h2 => ?_)
  · refine w_const i8_in_14 ?_
    refine w_iret i8_in_15 (Or.inr ⟨rfl, by omega⟩) ⟨Nat.le_refl _, Nat.le_refl _⟩ ?_
    first
    | exact ⟨rfl, 1, rfl, Or.inl ⟨rfl, by omega⟩, rfl, rfl⟩
    | exact ⟨rfl, 0, rfl, Or.inr ⟨rfl, by omega⟩, rfl, rfl⟩
  · refine w_iload i8_in_5 rfl ?_
    refine w_iload i8_in_6 rfl ?_
    refine w_icmpgt i8_in_7 (fun h7 => ?_) (fun h7 => ?_)
    · refine w_const i8_in_14 ?_
      refine w_iret i8_in_15 (Or.inr ⟨rfl, by omega⟩) ⟨Nat.le_refl _, Nat.le_refl _⟩ ?_
      first
      | exact ⟨rfl, 1, rfl, Or.inl ⟨rfl, by omega⟩, rfl, rfl⟩
      | exact ⟨rfl, 0, rfl, Or.inr ⟨rfl, by omega⟩, rfl, rfl⟩
    · refine w_const i8_in_10 ?_
      refine w_goto i8_in_11 ?_
      refine w_iret i8_in_15 (Or.inr ⟨rfl, by omega⟩) ⟨Nat.le_refl _, Nat.le_refl _⟩ ?_
      first
      | exact ⟨rfl, 1, rfl, Or.inl ⟨rfl, by omega⟩, rfl, rfl⟩
      | exact ⟨rfl, 0, rfl, Or.inr ⟨rfl, by omega⟩, rfl, rfl⟩
theorem r_size {d : Nat} {I : IE} {F : FE} {x : Int} (h : -2147483647 ≤ x) : MR m8_size d shM [iv x] I F (ab x) := by
  refine MS_of (ls := [li x]) f8_size rfl rfl (Nat.le_of_ble_eq_true rfl) ?_
  refine w_lcl (k := 0) rfl (fun hx => ?_)
  have hx2 := hx.2
  refine w_iload i8_size_0 rfl ?_
  refine w_ifge i8_size_1 (fun h1 => ?_) (fun h1 => ?_)
  · refine w_iload i8_size_9 rfl ?_
    refine w_iret i8_size_10 (Or.inl rfl) ⟨Nat.le_refl _, Nat.le_refl _⟩ ?_
    unfold ab
    first
      | (rw [if_pos (by omega)]; exact ⟨rfl, rfl, rfl, rfl⟩)
      | (rw [if_neg (by omega)]; exact ⟨rfl, rfl, rfl, rfl⟩)
  · refine w_iload i8_size_4 rfl ?_
    refine w_ineg i8_size_5 (by omega) ?_
    refine w_goto i8_size_6 ?_
    refine w_iret i8_size_10 (Or.inl rfl) ⟨Nat.le_refl _, Nat.le_refl _⟩ ?_
    unfold ab
    first
      | (rw [if_pos (by omega)]; exact ⟨rfl, rfl, rfl, rfl⟩)
      | (rw [if_neg (by omega)]; exact ⟨rfl, rfl, rfl, rfl⟩)
theorem r_at {d : Nat} {I : IE} {F : FE} {M : Int → Int} {r c : Int} (hM : NM M F) (hr : 0 ≤ r ∧ r ≤ 1) (hc : 0 ≤ c ∧ c ≤ 3) : MR m8_at d shM [rv 0, iv r, iv c] I F (M (r * 4 + c)) := by
  have e : F 1 (2 + 4 * r + c) = M (r * 4 + c) := by rw [← hM.1 (r * 4 + c) (by omega)]; congr 1; omega
  refine MS_of (ls := [lr 0, li r, li c]) f8_at rfl rfl (Nat.le_of_ble_eq_true rfl) ?_
  refine w_aload i8_at_0 rfl ?_
  refine w_getr i8_at_1 rfl rfl ?_
  refine w_const i8_at_4 ?_
  refine w_const i8_at_5 ?_
  refine w_iload i8_at_6 rfl ?_
  refine w_imul i8_at_7 (by omega) ?_
  refine w_iadd i8_at_8 (by omega) ?_
  refine w_iload i8_at_9 rfl ?_
  refine w_iadd i8_at_10 (by omega) ?_
  refine w_iald i8_at_11 rfl (by omega) ?_
  rw [e]
  refine w_iret i8_at_12 (Or.inl rfl) ⟨Nat.le_refl _, Nat.le_refl _⟩ ?_
  exact ⟨rfl, rfl, rfl, rfl⟩
theorem r_isColumn {d : Nat} {I : IE} {F : FE} {x n : Int} (hd : 1 ≤ d) (hn : F 1 1 = n) (h4 : 0 ≤ n ∧ n ≤ 4) : MP m8_isColumn d shM [rv 0, iv x] I F (tf (0 ≤ x ∧ x < n)) := by
  refine MS_of (ls := [lr 0, li x]) f8_isColumn rfl rfl (Nat.le_of_ble_eq_true rfl) ?_
  refine w_iload i8_isColumn_0 rfl ?_
  refine w_const i8_isColumn_1 ?_
  refine w_aload i8_isColumn_2 rfl ?_
  refine w_getr i8_isColumn_3 rfl rfl ?_
  refine w_const i8_isColumn_6 ?_
  refine w_iald i8_isColumn_7 rfl (by omega) ?_
  refine w_const i8_isColumn_8 ?_
  refine w_isub i8_isColumn_9 (by omega) ?_
  refine w_cSP i8_isColumn_10 f8_in v8_in r_in rfl rfl (Nat.le_of_ble_eq_true rfl) (by omega) (fun v hv => ?_)
  refine w_iret i8_isColumn_13 (Or.inr ⟨rfl, by rcases hv with h | h <;> omega⟩) ⟨Nat.le_refl _, Nat.le_refl _⟩ ?_
  refine ⟨rfl, _, rfl, ?_, rfl, rfl⟩
  rw [hn] at hv
  rcases hv with ⟨g1, g2⟩ | ⟨g1, g2⟩
  · exact Or.inl ⟨g1, by omega⟩
  · exact Or.inr ⟨g1, by omega⟩
theorem r_isElement {d : Nat} {I : IE} {F : FE} {x : Int} (hd : 1 ≤ d) (h4 : 0 ≤ I 0 5 ∧ I 0 5 ≤ 160) : MP m8_isElement d shM [rv 0, iv x] I F (tf (0 ≤ x ∧ x < I 0 5)) := by
  refine MS_of (ls := [lr 0, li x]) f8_isElement rfl rfl (Nat.le_of_ble_eq_true rfl) ?_
  refine w_iload i8_isElement_0 rfl ?_
  refine w_const i8_isElement_1 ?_
  refine w_aload i8_isElement_2 rfl ?_
  refine w_get i8_isElement_3 rfl rfl ?_
  refine w_const i8_isElement_6 ?_
  refine w_isub i8_isElement_7 (by omega) ?_
  refine w_cSP i8_isElement_8 f8_in v8_in r_in rfl rfl (Nat.le_of_ble_eq_true rfl) (by omega) (fun v hv => ?_)
  refine w_iret i8_isElement_11 (Or.inr ⟨rfl, by rcases hv with h | h <;> omega⟩) ⟨Nat.le_refl _, Nat.le_refl _⟩ ?_
  refine ⟨rfl, _, rfl, ?_, rfl, rfl⟩
  rcases hv with ⟨g1, g2⟩ | ⟨g1, g2⟩
  · exact Or.inl ⟨g1, by omega⟩
  · exact Or.inr ⟨g1, by omega⟩
theorem r_isPlace {d : Nat} {I : IE} {F : FE} {x y n r : Int} (hd : 2 ≤ d) (hr : F 1 0 = r) (hr2 : 0 ≤ r ∧ r ≤ 2) (hn : F 1 1 = n) (h4 : 0 ≤ n ∧ n ≤ 4) : MP m8_isPlace d shM [rv 0, iv x, iv y] I F (tf ((0 ≤ x ∧ x < r) ∧ 0 ≤ y ∧ y < n)) := by
  refine MS_of (ls := [lr 0, li x, li y]) f8_isPlace rfl rfl (Nat.le_of_ble_eq_true rfl) ?_
  refine w_iload i8_isPlace_0 rfl ?_
  refine w_const i8_isPlace_1 ?_
  refine w_aload i8_isPlace_2 rfl ?_
  refine w_getr i8_isPlace_3 rfl rfl ?_
  refine w_const i8_isPlace_6 ?_
  refine w_iald i8_isPlace_7 rfl (by omega) ?_
  refine w_const i8_isPlace_8 ?_
  refine w_isub i8_isPlace_9 (by omega) ?_
  refine w_cSP i8_isPlace_10 f8_in v8_in r_in rfl rfl (Nat.le_of_ble_eq_true rfl) (by omega) (fun v1 hv1 => ?_)
  rw [hr] at hv1
  refine w_ifeq i8_isPlace_13 (fun h13 => ?_) (fun h13 => ?_)
  · refine w_const i8_isPlace_28 ?_
    refine w_iret i8_isPlace_29 (Or.inr ⟨rfl, by omega⟩) ⟨Nat.le_refl _, Nat.le_refl _⟩ ?_
    first
    | (refine ⟨rfl, 0, rfl, Or.inr ⟨rfl, ?_⟩, rfl, rfl⟩
       rcases hv1 with h | h <;> omega)
    | (refine ⟨rfl, 1, rfl, Or.inl ⟨rfl, ?_⟩, rfl, rfl⟩
       rcases hv1 with h | h <;> rcases hv2 with g | g <;> omega)
    | (refine ⟨rfl, 0, rfl, Or.inr ⟨rfl, ?_⟩, rfl, rfl⟩
       rcases hv1 with h | h <;> rcases hv2 with g | g <;> omega)
  · refine w_aload i8_isPlace_16 rfl ?_
    refine w_iload i8_isPlace_17 rfl ?_
    refine w_cVP i8_isPlace_18 f8_isColumn v8_isColumn (r_isColumn (by omega) hn h4) rfl rfl (by decide) rfl rfl (Nat.le_of_ble_eq_true rfl) (by omega) (fun v2 hv2 => ?_)
    refine w_ifeq i8_isPlace_21 (fun h21 => ?_) (fun h21 => ?_)
    · refine w_const i8_isPlace_28 ?_
      refine w_iret i8_isPlace_29 (Or.inr ⟨rfl, by omega⟩) ⟨Nat.le_refl _, Nat.le_refl _⟩ ?_
      first
      | (refine ⟨rfl, 0, rfl, Or.inr ⟨rfl, ?_⟩, rfl, rfl⟩
         rcases hv1 with h | h <;> omega)
      | (refine ⟨rfl, 1, rfl, Or.inl ⟨rfl, ?_⟩, rfl, rfl⟩
         rcases hv1 with h | h <;> rcases hv2 with g | g <;> omega)
      | (refine ⟨rfl, 0, rfl, Or.inr ⟨rfl, ?_⟩, rfl, rfl⟩
         rcases hv1 with h | h <;> rcases hv2 with g | g <;> omega)
    · refine w_const i8_isPlace_24 ?_
      refine w_goto i8_isPlace_25 ?_
      refine w_iret i8_isPlace_29 (Or.inr ⟨rfl, by omega⟩) ⟨Nat.le_refl _, Nat.le_refl _⟩ ?_
      first
      | (refine ⟨rfl, 0, rfl, Or.inr ⟨rfl, ?_⟩, rfl, rfl⟩
         rcases hv1 with h | h <;> omega)
      | (refine ⟨rfl, 1, rfl, Or.inl ⟨rfl, ?_⟩, rfl, rfl⟩
         rcases hv1 with h | h <;> rcases hv2 with g | g <;> omega)
      | (refine ⟨rfl, 0, rfl, Or.inr ⟨rfl, ?_⟩, rfl, rfl⟩
         rcases hv1 with h | h <;> rcases hv2 with g | g <;> omega)
theorem r_isZeroColumn {d : Nat} {I : IE} {F : FE} {M : Int → Int} {c : Int} (hd : 1 ≤ d) (hM : NM M F) (hc : 0 ≤ c ∧ c ≤ 3) : MP m8_isZeroColumn d shM [rv 0, iv c] I F (tf (M c = 0 ∧ M (4 + c) = 0)) := by
  have e0 : (0 : Int) * 4 + c = c := by omega
  have e1 : (1 : Int) * 4 + c = 4 + c := by omega
  refine MS_of (ls := [lr 0, li c]) f8_isZeroColumn rfl rfl (Nat.le_of_ble_eq_true rfl) ?_
  refine w_aload i8_isZeroColumn_0 rfl ?_
  refine w_const i8_isZeroColumn_1 ?_
  refine w_iload i8_isZeroColumn_2 rfl ?_
  refine w_cVR i8_isZeroColumn_3 f8_at v8_at (r_at hM (by omega) hc) rfl rfl (by decide) rfl rfl (Nat.le_of_ble_eq_true rfl) (by omega) ?_
  rw [e0]
  refine w_ifne i8_isZeroColumn_6 (fun h6 => ?_) (fun h6 => ?_)
  · refine w_const i8_isZeroColumn_22 ?_
    refine w_iret i8_isZeroColumn_23 (Or.inr ⟨rfl, by omega⟩) ⟨Nat.le_refl _, Nat.le_refl _⟩ ?_
    first
    | exact ⟨rfl, 1, rfl, Or.inl ⟨rfl, by omega⟩, rfl, rfl⟩
    | exact ⟨rfl, 0, rfl, Or.inr ⟨rfl, by omega⟩, rfl, rfl⟩
  · refine w_aload i8_isZeroColumn_9 rfl ?_
    refine w_const i8_isZeroColumn_10 ?_
    refine w_iload i8_isZeroColumn_11 rfl ?_
    refine w_cVR i8_isZeroColumn_12 f8_at v8_at (r_at hM (by omega) hc) rfl rfl (by decide) rfl rfl (Nat.le_of_ble_eq_true rfl) (by omega) ?_
    rw [e1]
    refine w_ifne i8_isZeroColumn_15 (fun h15 => ?_) (fun h15 => ?_)
    · refine w_const i8_isZeroColumn_22 ?_
      refine w_iret i8_isZeroColumn_23 (Or.inr ⟨rfl, by omega⟩) ⟨Nat.le_refl _, Nat.le_refl _⟩ ?_
      first
      | exact ⟨rfl, 1, rfl, Or.inl ⟨rfl, by omega⟩, rfl, rfl⟩
      | exact ⟨rfl, 0, rfl, Or.inr ⟨rfl, by omega⟩, rfl, rfl⟩
    · refine w_const i8_isZeroColumn_18 ?_
      refine w_goto i8_isZeroColumn_19 ?_
      refine w_iret i8_isZeroColumn_23 (Or.inr ⟨rfl, by omega⟩) ⟨Nat.le_refl _, Nat.le_refl _⟩ ?_
      first
      | exact ⟨rfl, 1, rfl, Or.inl ⟨rfl, by omega⟩, rfl, rfl⟩
      | exact ⟨rfl, 0, rfl, Or.inr ⟨rfl, by omega⟩, rfl, rfl⟩
theorem lr_iap {d n0 : Nat} {Q : PQ} {I : IE} {F : FE} {M : Int → Int} {n : Int} (hd : 2 ≤ d) (hM : NM M F) (hn : F 1 1 = n) (h4 : 0 ≤ n ∧ n ≤ 4) (K : ∀ v, tf (Pos M n) v → WS m8_isAllPositive d 0 0 n0 Q 0 0 38 [lr 0, li v, li n] [] shM I F) :
    ∀ (m k : Nat) (v : Int), (k + m : Int) = n → tf (Pos M k) v → WS m8_isAllPositive d 0 0 n0 Q 0 0 4 [lr 0, li v, li k] [] shM I F := by
  intro m
  induction m with
  | zero =>
    intro k v hk hP
    have ek : (k : Int) = n := by omega
    rw [ek] at hP ⊢
    refine w_iload i8_isAllPositive_4 rfl ?_
    refine w_aload i8_isAllPositive_5 rfl ?_
    refine w_getr i8_isAllPositive_6 rfl rfl ?_
    refine w_const i8_isAllPositive_9 ?_
    refine w_iald i8_isAllPositive_10 rfl (by omega) ?_
    refine w_icmpge i8_isAllPositive_11 (fun h11 => ?_) (fun h_ => absurd h_ (by omega))
    exact K v hP
  | succ m ih =>
    intro k v hk hP
    have up : ∀ w, tf (v = 1 ∧ ¬ (M k = 0 ∧ M (4 + k) = 0)) w → tf (Pos M ((k + 1 : Nat) : Int)) w := fun w hw => by
      have hv01 : v = 1 ∧ Pos M k ∨ v = 0 ∧ ¬ Pos M k := hP
      have key : (v = 1 ∧ ¬ (M k = 0 ∧ M (4 + k) = 0)) ↔ Pos M ((k + 1 : Nat) : Int) := by
        constructor
        · rintro ⟨g1, g2⟩ j hj
          rcases hv01 with ⟨-, g⟩ | ⟨g, -⟩
          · by_cases e : j = k
            · rw [e]; exact g2
            · exact g j (by omega)
          · omega
        · intro g
          refine ⟨?_, g k (by omega)⟩
          rcases hv01 with ⟨g1, -⟩ | ⟨-, g1⟩
          · exact g1
          · exact absurd (fun j hj => g j (by omega)) g1
      unfold tf at hw ⊢
      rw [← key]
      exact hw
    have hv01 : v = 1 ∨ v = 0 := by rcases hP with h | h <;> omega
    refine w_iload i8_isAllPositive_4 rfl ?_
    refine w_aload i8_isAllPositive_5 rfl ?_
    refine w_getr i8_isAllPositive_6 rfl rfl ?_
    refine w_const i8_isAllPositive_9 ?_
    refine w_iald i8_isAllPositive_10 rfl (by omega) ?_
    refine w_icmpge i8_isAllPositive_11 (fun h_ => absurd h_ (by omega)) (fun h11 => ?_)
    refine w_iload i8_isAllPositive_14 rfl ?_
    refine w_ifeq i8_isAllPositive_15 (fun h15 => ?_) (fun h15 => ?_)
    · refine w_const i8_isAllPositive_30 ?_
      refine w_is1 i8_isAllPositive_31 ?_
      refine w_ii2 i8_isAllPositive_32 (by omega) ?_
      refine w_goto i8_isAllPositive_35 ?_
      first
      | exact ih (k + 1) 1 (by omega) (up 1 (Or.inl ⟨rfl, by omega, by rcases hz with g | g; omega; exact g.2⟩))
      | exact ih (k + 1) 0 (by omega) (up 0 (Or.inr ⟨rfl, fun g => by rcases hz with h | h; exact g.2 h.2; omega⟩))
      | exact ih (k + 1) 0 (by omega) (up 0 (Or.inr ⟨rfl, fun g => by omega⟩))
    · refine w_aload i8_isAllPositive_18 rfl ?_
      refine w_iload i8_isAllPositive_19 rfl ?_
      refine w_cVP i8_isAllPositive_20 f8_isZeroColumn v8_isZeroColumn (r_isZeroColumn (by omega) hM (by omega)) rfl rfl (by decide) rfl rfl (Nat.le_of_ble_eq_true rfl) (by omega) (fun z hz => ?_)
      refine w_ifne i8_isAllPositive_23 (fun h23 => ?_) (fun h23 => ?_)
      · refine w_const i8_isAllPositive_30 ?_
        refine w_is1 i8_isAllPositive_31 ?_
        refine w_ii2 i8_isAllPositive_32 (by omega) ?_
        refine w_goto i8_isAllPositive_35 ?_
        first
        | exact ih (k + 1) 1 (by omega) (up 1 (Or.inl ⟨rfl, by omega, by rcases hz with g | g; omega; exact g.2⟩))
        | exact ih (k + 1) 0 (by omega) (up 0 (Or.inr ⟨rfl, fun g => by rcases hz with h | h; exact g.2 h.2; omega⟩))
        | exact ih (k + 1) 0 (by omega) (up 0 (Or.inr ⟨rfl, fun g => by omega⟩))
      · refine w_const i8_isAllPositive_26 ?_
        refine w_goto i8_isAllPositive_27 ?_
        refine w_is1 i8_isAllPositive_31 ?_
        refine w_ii2 i8_isAllPositive_32 (by omega) ?_
        refine w_goto i8_isAllPositive_35 ?_
        first
        | exact ih (k + 1) 1 (by omega) (up 1 (Or.inl ⟨rfl, by omega, by rcases hz with g | g; omega; exact g.2⟩))
        | exact ih (k + 1) 0 (by omega) (up 0 (Or.inr ⟨rfl, fun g => by rcases hz with h | h; exact g.2 h.2; omega⟩))
        | exact ih (k + 1) 0 (by omega) (up 0 (Or.inr ⟨rfl, fun g => by omega⟩))
theorem r_isAllPositive {d : Nat} {I : IE} {F : FE} {M : Int → Int} {n : Int} (hd : 2 ≤ d) (hM : NM M F) (hn : F 1 1 = n) (h4 : 0 ≤ n ∧ n ≤ 4) : MP m8_isAllPositive d shM [rv 0] I F (tf (Pos M n)) := by
  refine MS_of (ls := [lr 0, lu, lu]) f8_isAllPositive rfl rfl (Nat.le_of_ble_eq_true rfl) ?_
  refine w_const i8_isAllPositive_0 ?_
  refine w_is1 i8_isAllPositive_1 ?_
  refine w_const i8_isAllPositive_2 ?_
  refine w_is2 i8_isAllPositive_3 ?_
  refine lr_iap hd hM hn h4 (fun v hv => ?_) n.toNat 0 1 (by omega) (Or.inl ⟨rfl, fun j hj => absurd hj (by omega)⟩)
  refine w_iload i8_isAllPositive_38 rfl ?_
  refine w_iret i8_isAllPositive_39 (Or.inr ⟨rfl, by rcases hv with h | h <;> omega⟩) ⟨Nat.le_refl _, Nat.le_refl _⟩ ?_
  exact ⟨rfl, _, rfl, hv, rfl, rfl⟩
theorem lr_product {d n0 : Nat} {Q : PQ} {I : IE} {F : FE} {M v : Int → Int} {r o : Int} {p N : Nat} {n : Nat} (hd : 1 ≤ d) (hM : NM M F) (hr : 0 ≤ r ∧ r ≤ 1) (hn : n ≤ 4) (ho : 0 ≤ o ∧ o ≤ 100000) (hp : shM[p]? = some (.inl N)) (hN : o + n ≤ N) (hv : ∀ j : Int, 0 ≤ j ∧ j < n → F p (o + j) = v j ∧ -1000 ≤ v j ∧ v j ≤ 1000)
    (K : WS m8_product d 0 0 n0 Q 0 0 38 [lr 0, li r, lr p, li o, li n, li (dt M v r n), li n] [] shM I F) :
    ∀ (m k : Nat), k + m = n → WS m8_product d 0 0 n0 Q 0 0 6 [lr 0, li r, lr p, li o, li n, li (dt M v r k), li k] [] shM I F := by
  intro m
  induction m with
  | zero =>
    intro k hk
    obtain rfl : k = n := by omega
    refine w_iload i8_product_6 rfl ?_
    refine w_iload i8_product_8 rfl ?_
    refine w_icmpge i8_product_10 (fun h10 => ?_) (fun h_ => absurd h_ (by omega))
    exact K
  | succ m ih =>
    intro k hk
    have hb := dt_b (r := r) hM.2 k (fun j hj => (hv j (by omega)).2)
    obtain ⟨hv1, hv2⟩ := hv k (by omega)
    have h2 := mulb (hM.2 (r * 4 + k)) (B := 1000) hv2
    refine w_iload i8_product_6 rfl ?_
    refine w_iload i8_product_8 rfl ?_
    refine w_icmpge i8_product_10 (fun h_ => absurd h_ (by omega)) (fun h10 => ?_)
    refine w_iload i8_product_13 rfl ?_
    refine w_aload i8_product_15 rfl ?_
    refine w_iload i8_product_16 rfl ?_
    refine w_iload i8_product_17 rfl ?_
    refine w_cVR i8_product_19 f8_at v8_at (r_at hM hr (by omega)) rfl rfl (by decide) rfl rfl (Nat.le_of_ble_eq_true rfl) (by omega) ?_
    refine w_aload i8_product_22 rfl ?_
    refine w_iload i8_product_23 rfl ?_
    refine w_iload i8_product_24 rfl ?_
    refine w_iadd i8_product_26 (by omega) ?_
    refine w_iald i8_product_27 hp (by omega) ?_
    rw [hv1]
    refine w_imul i8_product_28 (by omega) ?_
    refine w_iadd i8_product_29 (by omega) ?_
    refine w_is5 i8_product_30 ?_
    refine w_ii6 i8_product_32 (by omega) ?_
    refine w_goto i8_product_35 ?_
    exact ih (k + 1) (by omega)
theorem r_product {d : Nat} {I : IE} {F : FE} {M v : Int → Int} {r o : Int} {p N n : Nat} (hd : 1 ≤ d) (hM : NM M F) (hr : 0 ≤ r ∧ r ≤ 1) (hn : n ≤ 4) (ho : 0 ≤ o ∧ o ≤ 100000) (hp : shM[p]? = some (.inl N)) (hN : o + n ≤ N) (hv : ∀ j : Int, 0 ≤ j ∧ j < n → F p (o + j) = v j ∧ -1000 ≤ v j ∧ v j ≤ 1000) : MR m8_product d shM [rv 0, iv r, rv p, iv o, iv n] I F (dt M v r n) := by
  refine MS_of (ls := [lr 0, li r, lr p, li o, li n, lu, lu]) f8_product rfl rfl (Nat.le_of_ble_eq_true rfl) ?_
  refine w_const i8_product_0 ?_
  refine w_is5 i8_product_1 ?_
  refine w_const i8_product_3 ?_
  refine w_is6 i8_product_4 ?_
  refine lr_product (v := v) hd hM hr hn ho hp hN hv ?_ n 0 (by omega)
  refine w_iload i8_product_38 rfl ?_
  refine w_iret i8_product_40 (Or.inl rfl) ⟨Nat.le_refl _, Nat.le_refl _⟩ ?_
  exact ⟨rfl, rfl, rfl, rfl⟩
theorem r_norm {d : Nat} {I : IE} {F : FE} {v : Int → Int} {o : Int} {p N : Nat} (hd : 1 ≤ d) (ho : 0 ≤ o ∧ o ≤ 100000) (hp : shM[p]? = some (.inl N)) (hN : o + 4 ≤ N) (hv : ∀ j, 0 ≤ j ∧ j < 4 → F p (o + j) = v j ∧ -1000 ≤ v j ∧ v j ≤ 1000) : MR m8_norm d shM [rv p, iv o] I F (asum v 4) := by
  have h0 := hv 0 (by decide); have h1 := hv 1 (by decide); have h2 := hv 2 (by decide); have h3 := hv 3 (by decide)
  rw [Int.add_zero] at h0
  have a0 := ab_b h0.2; have a1 := ab_b h1.2; have a2 := ab_b h2.2; have a3 := ab_b h3.2
  have e : asum v 4 = ab (v 0) + ab (v 1) + ab (v 2) + ab (v 3) := by show 0 + ab (v 0) + ab (v 1) + ab (v 2) + ab (v 3) = _; omega
  rw [e]
  refine MS_of (ls := [lr p, li o]) f8_norm rfl rfl (Nat.le_of_ble_eq_true rfl) ?_
  refine w_aload i8_norm_0 rfl ?_
  refine w_iload i8_norm_1 rfl ?_
  refine w_iald i8_norm_2 hp (by omega) ?_
  rw [h0.1]
  refine w_cSR i8_norm_3 f8_size v8_size (r_size (by omega)) rfl rfl (Nat.le_of_ble_eq_true rfl) (by omega) ?_
  refine w_aload i8_norm_6 rfl ?_
  refine w_iload i8_norm_7 rfl ?_
  refine w_const i8_norm_8 ?_
  refine w_iadd i8_norm_9 (by omega) ?_
  refine w_iald i8_norm_10 hp (by omega) ?_
  rw [h1.1]
  refine w_cSR i8_norm_11 f8_size v8_size (r_size (by omega)) rfl rfl (Nat.le_of_ble_eq_true rfl) (by omega) ?_
  refine w_iadd i8_norm_14 (by omega) ?_
  refine w_aload i8_norm_15 rfl ?_
  refine w_iload i8_norm_16 rfl ?_
  refine w_const i8_norm_17 ?_
  refine w_iadd i8_norm_18 (by omega) ?_
  refine w_iald i8_norm_19 hp (by omega) ?_
  rw [h2.1]
  refine w_cSR i8_norm_20 f8_size v8_size (r_size (by omega)) rfl rfl (Nat.le_of_ble_eq_true rfl) (by omega) ?_
  refine w_iadd i8_norm_23 (by omega) ?_
  refine w_aload i8_norm_24 rfl ?_
  refine w_iload i8_norm_25 rfl ?_
  refine w_const i8_norm_26 ?_
  refine w_iadd i8_norm_27 (by omega) ?_
  refine w_iald i8_norm_28 hp (by omega) ?_
  rw [h3.1]
  refine w_cSR i8_norm_29 f8_size v8_size (r_size (by omega)) rfl rfl (Nat.le_of_ble_eq_true rfl) (by omega) ?_
  refine w_iadd i8_norm_32 (by omega) ?_
  refine w_iret i8_norm_33 (Or.inl rfl) ⟨Nat.le_refl _, Nat.le_refl _⟩ ?_
  exact ⟨rfl, rfl, rfl, rfl⟩
def c4 (u v : Int → Int) (k : Nat) : Prop := ∀ i : Int, 0 ≤ i ∧ i < k → c1 (u i) (v i)
theorem lr_conf {d n0 : Nat} {Q : PQ} {I : IE} {F : FE} {e s o : Int} {u v : Int → Int} {p N : Nat} (hd : 1 ≤ d) (he : 0 ≤ e ∧ e < 160) (hs : s = 1 ∨ s = -1) (ho : 0 ≤ o ∧ o ≤ 100000) (hp : shM[p]? = some (.inl N)) (hN : o + 4 ≤ N) (hu : ∀ j, 0 ≤ j ∧ j < 4 → F 4 (4 * e + j) = u j ∧ -100 ≤ u j ∧ u j ≤ 100) (hv : ∀ j, 0 ≤ j ∧ j < 4 → F p (o + j) = v j ∧ -100 ≤ v j ∧ v j ≤ 100)
    (K : ∀ b x, tf (c4 (fun j => s * u j) v 4) b → WS m8_isConformal d 0 0 n0 Q 0 0 76 [lr 0, li e, li s, lr p, li o, li b, li 4, x] [] shM I F) :
    ∀ (m k : Nat) (b : Int) (x : Option AV), k + m = 4 → tf (c4 (fun j => s * u j) v k) b → WS m8_isConformal d 0 0 n0 Q 0 0 6 [lr 0, li e, li s, lr p, li o, li b, li k, x] [] shM I F := by
  intro m
  induction m with
  | zero =>
    intro k b x hk hP
    obtain rfl : k = 4 := by omega
    refine w_iload i8_isConformal_6 rfl ?_
    refine w_const i8_isConformal_8 ?_
    refine w_icmpge i8_isConformal_9 (fun h9 => ?_) (fun h_ => absurd h_ (by omega))
    exact K b _ hP
  | succ m ih =>
    intro k b x hk hP
    obtain ⟨u1, u2⟩ := hu k (by omega)
    obtain ⟨v1, v2⟩ := hv k (by omega)
    have su : -100 ≤ s * u k ∧ s * u k ≤ 100 := by rcases hs with rfl | rfl <;> omega
    have hb3 := mulr (a := s * u k) (b := v k) (by omega) (by omega)
    have up : ∀ w, tf (b = 1 ∧ c1 (s * u k) (v k)) w → tf (c4 (fun j => s * u j) v (k + 1)) w := fun w hw => by
      have key : (b = 1 ∧ c1 (s * u k) (v k)) ↔ c4 (fun j => s * u j) v (k + 1) := by
        constructor
        · rintro ⟨g1, g2⟩ j hj
          rcases hP with ⟨-, g⟩ | ⟨g, -⟩
          · by_cases e : j = k
            · rw [e]; exact g2
            · exact g j (by omega)
          · omega
        · intro g
          refine ⟨?_, g k (by omega)⟩
          rcases hP with ⟨g1, -⟩ | ⟨-, g1⟩
          · exact g1
          · exact absurd (fun j hj => g j (by omega)) g1
      unfold tf at hw ⊢
      rw [← key]
      exact hw
    have hb01 : b = 1 ∨ b = 0 := by rcases hP with h | h <;> omega
    have hc := c1_iff (u := s * u k) (v := v k)
    refine w_iload i8_isConformal_6 rfl ?_
    refine w_const i8_isConformal_8 ?_
    refine w_icmpge i8_isConformal_9 (fun h_ => absurd h_ (by omega)) (fun h9 => ?_)
    refine w_iload i8_isConformal_12 rfl ?_
    refine w_aload i8_isConformal_13 rfl ?_
    refine w_getr i8_isConformal_14 rfl rfl ?_
    refine w_const i8_isConformal_17 ?_
    refine w_iload i8_isConformal_18 rfl ?_
    refine w_imul i8_isConformal_19 (by omega) ?_
    refine w_iload i8_isConformal_20 rfl ?_
    refine w_iadd i8_isConformal_22 (by omega) ?_
    refine w_iald i8_isConformal_23 rfl (by omega) ?_
    rw [u1]
    refine w_imul i8_isConformal_24 (by omega) ?_
    refine w_is7 i8_isConformal_25 ?_
    refine w_iload i8_isConformal_27 rfl ?_
    refine w_ifeq i8_isConformal_29 (fun h29 => ?_) (fun h29 => ?_)
    · refine w_const i8_isConformal_67 ?_
      refine w_is5 i8_isConformal_68 ?_
      refine w_ii6 i8_isConformal_70 (by omega) ?_
      refine w_goto i8_isConformal_73 ?_
      first
      | exact ih (k + 1) 1 _ (by omega) (up 1 (Or.inl ⟨rfl, by omega, hc.mpr ⟨by omega, by unfold ab at *; omega⟩⟩))
      | exact ih (k + 1) 0 _ (by omega) (up 0 (Or.inr ⟨rfl, fun g => by omega⟩))
      | exact ih (k + 1) 0 _ (by omega) (up 0 (Or.inr ⟨rfl, fun g => by have := hc.mp g.2; unfold ab at *; omega⟩))
    · refine w_iload i8_isConformal_32 rfl ?_
      refine w_aload i8_isConformal_34 rfl ?_
      refine w_iload i8_isConformal_35 rfl ?_
      refine w_iload i8_isConformal_37 rfl ?_
      refine w_iadd i8_isConformal_39 (by omega) ?_
      refine w_iald i8_isConformal_40 hp (by omega) ?_
      rw [v1]
      refine w_imul i8_isConformal_41 (by omega) ?_
      refine w_iflt i8_isConformal_42 (fun h42 => ?_) (fun h42 => ?_)
      · refine w_const i8_isConformal_67 ?_
        refine w_is5 i8_isConformal_68 ?_
        refine w_ii6 i8_isConformal_70 (by omega) ?_
        refine w_goto i8_isConformal_73 ?_
        first
        | exact ih (k + 1) 1 _ (by omega) (up 1 (Or.inl ⟨rfl, by omega, hc.mpr ⟨by omega, by unfold ab at *; omega⟩⟩))
        | exact ih (k + 1) 0 _ (by omega) (up 0 (Or.inr ⟨rfl, fun g => by omega⟩))
        | exact ih (k + 1) 0 _ (by omega) (up 0 (Or.inr ⟨rfl, fun g => by have := hc.mp g.2; unfold ab at *; omega⟩))
      · refine w_iload i8_isConformal_45 rfl ?_
        refine w_cSR i8_isConformal_47 f8_size v8_size (r_size (by omega)) rfl rfl (Nat.le_of_ble_eq_true rfl) (by omega) ?_
        refine w_aload i8_isConformal_50 rfl ?_
        refine w_iload i8_isConformal_51 rfl ?_
        refine w_iload i8_isConformal_53 rfl ?_
        refine w_iadd i8_isConformal_55 (by omega) ?_
        refine w_iald i8_isConformal_56 hp (by omega) ?_
        rw [v1]
        refine w_cSR i8_isConformal_57 f8_size v8_size (r_size (by omega)) rfl rfl (Nat.le_of_ble_eq_true rfl) (by omega) ?_
        refine w_icmpgt i8_isConformal_60 (fun h60 => ?_) (fun h60 => ?_)
        · refine w_const i8_isConformal_67 ?_
          refine w_is5 i8_isConformal_68 ?_
          refine w_ii6 i8_isConformal_70 (by omega) ?_
          refine w_goto i8_isConformal_73 ?_
          first
          | exact ih (k + 1) 1 _ (by omega) (up 1 (Or.inl ⟨rfl, by omega, hc.mpr ⟨by omega, by unfold ab at *; omega⟩⟩))
          | exact ih (k + 1) 0 _ (by omega) (up 0 (Or.inr ⟨rfl, fun g => by omega⟩))
          | exact ih (k + 1) 0 _ (by omega) (up 0 (Or.inr ⟨rfl, fun g => by have := hc.mp g.2; unfold ab at *; omega⟩))
        · refine w_const i8_isConformal_63 ?_
          refine w_goto i8_isConformal_64 ?_
          refine w_is5 i8_isConformal_68 ?_
          refine w_ii6 i8_isConformal_70 (by omega) ?_
          refine w_goto i8_isConformal_73 ?_
          first
          | exact ih (k + 1) 1 _ (by omega) (up 1 (Or.inl ⟨rfl, by omega, hc.mpr ⟨by omega, by unfold ab at *; omega⟩⟩))
          | exact ih (k + 1) 0 _ (by omega) (up 0 (Or.inr ⟨rfl, fun g => by omega⟩))
          | exact ih (k + 1) 0 _ (by omega) (up 0 (Or.inr ⟨rfl, fun g => by have := hc.mp g.2; unfold ab at *; omega⟩))
theorem r_isConformal {d : Nat} {I : IE} {F : FE} {e s o : Int} {u v : Int → Int} {p N : Nat} (hd : 1 ≤ d) (he : 0 ≤ e ∧ e < 160) (hs : s = 1 ∨ s = -1) (ho : 0 ≤ o ∧ o ≤ 100000) (hp : shM[p]? = some (.inl N)) (hN : o + 4 ≤ N) (hu : ∀ j, 0 ≤ j ∧ j < 4 → F 4 (4 * e + j) = u j ∧ -100 ≤ u j ∧ u j ≤ 100) (hv : ∀ j, 0 ≤ j ∧ j < 4 → F p (o + j) = v j ∧ -100 ≤ v j ∧ v j ≤ 100) : MP m8_isConformal d shM [rv 0, iv e, iv s, rv p, iv o] I F (tf (c4 (fun j => s * u j) v 4)) := by
  refine MS_of (ls := [lr 0, li e, li s, lr p, li o, lu, lu, lu]) f8_isConformal rfl rfl (Nat.le_of_ble_eq_true rfl) ?_
  refine w_const i8_isConformal_0 ?_
  refine w_is5 i8_isConformal_1 ?_
  refine w_const i8_isConformal_3 ?_
  refine w_is6 i8_isConformal_4 ?_
  refine lr_conf hd he hs ho hp hN hu hv (fun b x hb => ?_) 4 0 1 _ (by omega) (Or.inl ⟨rfl, fun j hj => absurd hj (by omega)⟩)
  refine w_iload i8_isConformal_76 rfl ?_
  refine w_iret i8_isConformal_78 (Or.inr ⟨rfl, by rcases hb with h | h <;> omega⟩) ⟨Nat.le_refl _, Nat.le_refl _⟩ ?_
  exact ⟨rfl, _, rfl, hb, rfl, rfl⟩
