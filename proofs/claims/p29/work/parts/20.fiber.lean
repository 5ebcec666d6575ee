-- a fiber at the place b: 0 size, 1 columns, 2 packed (b+3), 3 upper (b+1), 4 lower (b+2)
def FbAt (b N : Nat) : Prop := shX[b]? = some (.inr (1, [none, none, some (some (b + 3)), some (some (b + 1)), some (some (b + 2))])) ∧ shX[b + 1]? = some (.inl 4) ∧ shX[b + 2]? = some (.inl 4) ∧ shX[b + 3]? = some (.inl N) ∧ 47 < b ∧ b + 3 < 58
theorem fb50 : FbAt 50 2048 := ⟨rfl, rfl, rfl, rfl, by decide, by decide⟩
theorem fb54 : FbAt 54 32 := ⟨rfl, rfl, rfl, rfl, by decide, by decide⟩
theorem l1_tc {d n0 : Nat} {Q : PQ} {I : IE} {F : FE} {b N : Nat} (hB : FbAt b N) (hd : 1 ≤ d) (hn : 2 ≤ I 1 1 ∧ I 1 1 ≤ 4)
    (K : ∀ x F', (∀ i, 0 ≤ i ∧ i < 4 → F' (b + 1) i = if 4 - I 1 1 ≤ i then F 2 (i - (4 - I 1 1)) else 0) → (∀ i, 0 ≤ i ∧ i < 4 → F' (b + 2) i = if 4 - I 1 1 ≤ i then F 2 (4 + (i - (4 - I 1 1))) else 0) → (∀ a, a ≠ b + 1 → a ≠ b + 2 → F' a = F a) → WS m1_takeColumns d 0 0 n0 Q 0 0 86 [lr b, lr 1, li (4 - I 1 1), li 4, x] [] shX I F') :
    ∀ (m k : Nat) (x : Option AV) (F' : FE), k + m = 4 → (∀ i, 0 ≤ i ∧ i < (k : Int) → F' (b + 1) i = if 4 - I 1 1 ≤ i then F 2 (i - (4 - I 1 1)) else 0) → (∀ i, 0 ≤ i ∧ i < (k : Int) → F' (b + 2) i = if 4 - I 1 1 ≤ i then F 2 (4 + (i - (4 - I 1 1))) else 0) → (∀ a, a ≠ b + 1 → a ≠ b + 2 → F' a = F a) → WS m1_takeColumns d 0 0 n0 Q 0 0 17 [lr b, lr 1, li (4 - I 1 1), li k, x] [] shX I F' := by
  intro m
  induction m with
  | zero =>
    intro k x F' hk h1 h2 h3
    obtain rfl : k = 4 := by omega
    refine w_iload i1_takeColumns_17 rfl ?_
    refine w_const i1_takeColumns_18 ?_
    refine w_icmpge i1_takeColumns_19 (fun h19 => ?_) (fun h_ => absurd h_ (by omega))
    exact K _ F' h1 h2 h3
  | succ m ih =>
    intro k x F' hk h1 h2 h3
    have hb := hB.2.2.2.2
    have e2 : F' 2 = F 2 := h3 2 (by omega) (by omega)
    have z0 : ∀ x : Int, (0 : Int) * 4 + x = x := fun x => by omega
    have z1 : ∀ x : Int, (1 : Int) * 4 + x = 4 + x := fun x => by omega
    have next : ∀ (y : Option AV) (u v : Int), u = (if 4 - I 1 1 ≤ (k : Int) then F 2 (k - (4 - I 1 1)) else 0) → v = (if 4 - I 1 1 ≤ (k : Int) then F 2 (4 + (k - (4 - I 1 1))) else 0) → WS m1_takeColumns d 0 0 n0 Q 0 0 17 [lr b, lr 1, li (4 - I 1 1), li (k + 1 : Int), y] [] shX I (upF (upF F' (b + 1) k u) (b + 2) k v) := by
      intro y u v hu hv
      refine ih (k + 1) y _ (by omega) (fun i hi => ?_) (fun i hi => ?_) (fun a ha1 ha2 => ?_)
      · simp only [upF, true_and]
        rw [if_neg (by omega)]
        by_cases e : i = k
        · rw [if_pos e, hu, e]
        · rw [if_neg e]; exact h1 i (by omega)
      · simp only [upF, true_and]
        by_cases e : i = k
        · rw [if_pos e, hv, e]
        · rw [if_neg e, if_neg (by omega)]; exact h2 i (by omega)
      · funext i
        simp only [upF, ha1, ha2, false_and, if_false]
        rw [h3 a ha1 ha2]
    by_cases hu : 4 - I 1 1 ≤ (k : Int)
    · refine w_iload i1_takeColumns_17 rfl ?_
      refine w_const i1_takeColumns_18 ?_
      refine w_icmpge i1_takeColumns_19 (fun h_ => absurd h_ (by omega)) (fun h19 => ?_)
      refine w_iload i1_takeColumns_22 rfl ?_
      refine w_iload i1_takeColumns_23 rfl ?_
      refine w_icmplt i1_takeColumns_24 (fun h_ => absurd h_ (by omega)) (fun h24 => ?_)
      refine w_const i1_takeColumns_27 ?_
      refine w_goto i1_takeColumns_28 ?_
      refine w_is4 i1_takeColumns_32 ?_
      refine w_aload i1_takeColumns_34 rfl ?_
      refine w_getr i1_takeColumns_35 hB.1 rfl ?_
      refine w_iload i1_takeColumns_38 rfl ?_
      refine w_iload i1_takeColumns_39 rfl ?_
      refine w_ifeq i1_takeColumns_41 (fun h_ => absurd h_ (by decide)) (fun h41 => ?_)
      refine w_aload i1_takeColumns_44 rfl ?_
      refine w_const i1_takeColumns_45 ?_
      refine w_iload i1_takeColumns_46 rfl ?_
      refine w_iload i1_takeColumns_47 rfl ?_
      refine w_isub i1_takeColumns_48 (by omega) ?_
      refine w_cVR i1_takeColumns_49 f5_at v5_at (s5_at (by omega) (by omega)) rfl rfl (by decide) rfl rfl (Nat.le_of_ble_eq_true rfl) (by omega) ?_
      rw [z0]
      refine w_goto i1_takeColumns_52 ?_
      refine w_iast i1_takeColumns_56 hB.2.1 (by omega) ?_
      refine w_aload i1_takeColumns_57 rfl ?_
      refine w_getr i1_takeColumns_58 hB.1 rfl ?_
      refine w_iload i1_takeColumns_61 rfl ?_
      refine w_iload i1_takeColumns_62 rfl ?_
      refine w_ifeq i1_takeColumns_64 (fun h_ => absurd h_ (by decide)) (fun h64 => ?_)
      refine w_aload i1_takeColumns_67 rfl ?_
      refine w_const i1_takeColumns_68 ?_
      refine w_iload i1_takeColumns_69 rfl ?_
      refine w_iload i1_takeColumns_70 rfl ?_
      refine w_isub i1_takeColumns_71 (by omega) ?_
      refine w_cVR i1_takeColumns_72 f5_at v5_at (s5_at (by omega) (by omega)) rfl rfl (by decide) rfl rfl (Nat.le_of_ble_eq_true rfl) (by omega) ?_
      rw [z1]
      refine w_goto i1_takeColumns_75 ?_
      refine w_iast i1_takeColumns_79 hB.2.2.1 (by omega) ?_
      refine w_ii3 i1_takeColumns_80 (by omega) ?_
      refine w_goto i1_takeColumns_83 ?_
      refine next _ _ _ (by rw [if_pos hu, e2]) (by rw [if_pos hu]; simp only [upF]; rw [if_neg (by omega), e2])
    · refine w_iload i1_takeColumns_17 rfl ?_
      refine w_const i1_takeColumns_18 ?_
      refine w_icmpge i1_takeColumns_19 (fun h_ => absurd h_ (by omega)) (fun h19 => ?_)
      refine w_iload i1_takeColumns_22 rfl ?_
      refine w_iload i1_takeColumns_23 rfl ?_
      refine w_icmplt i1_takeColumns_24 (fun h24 => ?_) (fun h_ => absurd h_ (by omega))
      refine w_const i1_takeColumns_31 ?_
      refine w_is4 i1_takeColumns_32 ?_
      refine w_aload i1_takeColumns_34 rfl ?_
      refine w_getr i1_takeColumns_35 hB.1 rfl ?_
      refine w_iload i1_takeColumns_38 rfl ?_
      refine w_iload i1_takeColumns_39 rfl ?_
      refine w_ifeq i1_takeColumns_41 (fun h41 => ?_) (fun h_ => absurd h_ (by decide))
      refine w_const i1_takeColumns_55 ?_
      refine w_iast i1_takeColumns_56 hB.2.1 (by omega) ?_
      refine w_aload i1_takeColumns_57 rfl ?_
      refine w_getr i1_takeColumns_58 hB.1 rfl ?_
      refine w_iload i1_takeColumns_61 rfl ?_
      refine w_iload i1_takeColumns_62 rfl ?_
      refine w_ifeq i1_takeColumns_64 (fun h64 => ?_) (fun h_ => absurd h_ (by decide))
      refine w_const i1_takeColumns_78 ?_
      refine w_iast i1_takeColumns_79 hB.2.2.1 (by omega) ?_
      refine w_ii3 i1_takeColumns_80 (by omega) ?_
      refine w_goto i1_takeColumns_83 ?_
      refine next _ _ _ (by rw [if_neg hu]) (by rw [if_neg hu])
theorem s1_takeColumns {d : Nat} {I : IE} {F : FE} {b N : Nat} (hB : FbAt b N) (hd : 1 ≤ d) (hn : 2 ≤ I 1 1 ∧ I 1 1 ≤ 4) : MU m1_takeColumns d shX [rv b, rv 1] I F (fun I' F' => I' = upI I b 1 (I 1 1) ∧
    (∀ i, 0 ≤ i ∧ i < 4 → F' (b + 1) i = if 4 - I 1 1 ≤ i then F 2 (i - (4 - I 1 1)) else 0) ∧ (∀ i, 0 ≤ i ∧ i < 4 → F' (b + 2) i = if 4 - I 1 1 ≤ i then F 2 (4 + (i - (4 - I 1 1))) else 0) ∧ (∀ a, a ≠ b + 1 → a ≠ b + 2 → F' a = F a)) := by
  have hb := hB.2.2.2.2
  have e1 : upI I b 1 (I 1 1) b 1 = I 1 1 := by simp [upI]
  have e2 : upI I b 1 (I 1 1) 1 1 = I 1 1 := by simp only [upI]; rw [if_neg (by omega)]
  refine MS_of (ls := [lr b, lr 1, lu, lu, lu]) f1_takeColumns rfl rfl (Nat.le_of_ble_eq_true rfl) ?_
  refine w_aload i1_takeColumns_0 rfl ?_
  refine w_aload i1_takeColumns_1 rfl ?_
  refine w_get i1_takeColumns_2 rfl rfl ?_
  refine w_put i1_takeColumns_5 hB.1 rfl (Or.inl rfl) ?_
  refine w_const i1_takeColumns_8 ?_
  refine w_aload i1_takeColumns_9 rfl ?_
  refine w_get i1_takeColumns_10 hB.1 rfl ?_
  rw [e1]
  refine w_isub i1_takeColumns_13 (by omega) ?_
  refine w_is2 i1_takeColumns_14 ?_
  refine w_const i1_takeColumns_15 ?_
  refine w_is3 i1_takeColumns_16 ?_
  refine Eq.mp (congrArg (fun z => WS m1_takeColumns d 0 0 _ _ 0 0 17 [lr b, lr 1, li (4 - z), li ((0 : Nat) : Int), lu] [] shX (upI I b 1 (I 1 1)) F) e2) ?_
  refine l1_tc (I := upI I b 1 (I 1 1)) (F := F) hB hd (by rw [e2]; exact hn) (fun x F' h1 h2 h3 => ?_) 4 0 _ _ (by decide) (fun i hi => absurd hi (by omega)) (fun i hi => absurd hi (by omega)) (fun _ _ _ => rfl)
  rw [e2] at h1 h2
  refine w_vret i1_takeColumns_86 rfl ⟨Nat.le_refl _, Nat.le_refl _⟩ ?_
  exact ⟨rfl, rfl, rfl, h1, h2, h3⟩
/-- the greatest entry at a place -/
def MostP (u l s t v : Int) : Prop := (0 ≤ v ∧ v ≤ 127) ∧ ∀ y, 0 ≤ y → (y ≤ v ↔ u * y ≤ s ∧ l * y ≤ t ∧ y ≤ 127 ∧ (u = 0 → l = 0 → y = 0))
theorem div_iff {u s y : Int} (hu : 0 < u) : y ≤ s / u ↔ u * y ≤ s := by rw [Int.le_ediv_iff_mul_le hu, Int.mul_comm]
theorem s1_most {d : Nat} {I : IE} {F : FE} {b N : Nat} {p s t : Int} (hB : FbAt b N) (hd : 1 ≤ d) (hp : 0 ≤ p ∧ p ≤ 3) (hs : 0 ≤ s ∧ s ≤ 127) (ht : 0 ≤ t ∧ t ≤ 127) (hU : 0 ≤ F (b + 1) p ∧ F (b + 1) p ≤ 3) (hL : 0 ≤ F (b + 2) p ∧ F (b + 2) p ≤ 3) :
    MP m1_most d shX [rv b, iv p, iv s, iv t] I F (MostP (F (b + 1) p) (F (b + 2) p) s t) := by
  generalize hu : F (b + 1) p = u at hU
  generalize hl : F (b + 2) p = l at hL
  have eu : s.tdiv u = s / u := Int.tdiv_eq_ediv_of_nonneg hs.1
  have el : t.tdiv l = t / l := Int.tdiv_eq_ediv_of_nonneg ht.1
  have du := Int.ediv_nonneg hs.1 hU.1
  have dl := Int.ediv_nonneg ht.1 hL.1
  have du2 := Int.ediv_le_self u hs.1
  have dl2 := Int.ediv_le_self l ht.1
  have z1 : ∀ y : Int, (0 : Int) * y = 0 := fun y => Int.zero_mul y
  /- the four ends -/
  have both : 0 < u → 0 < l → ∀ w, (w = s / u ∨ w = t / l) → w ≤ s / u → w ≤ t / l → MostP u l s t w := fun g1 g2 w hw h1 h2 => by
    refine ⟨by rcases hw with rfl | rfl <;> constructor <;> omega, fun y hy => ?_⟩
    have i1 := div_iff (s := s) (y := y) g1
    have i2 := div_iff (s := t) (y := y) g2
    rw [← i1, ← i2]
    constructor
    · intro h; refine ⟨by omega, by omega, by omega, fun z => absurd z (by omega)⟩
    · rintro ⟨a1, a2, -, -⟩
      rcases hw with rfl | rfl <;> omega
  have onlyu : 0 < u → l = 0 → MostP u l s t (s / u) := fun g1 l0 => by
    refine ⟨by constructor <;> omega, fun y hy => ?_⟩
    have i1 := div_iff (s := s) (y := y) g1
    subst l0
    rw [← i1, z1]
    constructor
    · intro h; refine ⟨by omega, by omega, by omega, fun z => absurd z (by omega)⟩
    · rintro ⟨a1, a2, -, -⟩; omega
  have onlyl : u = 0 → 0 < l → MostP u l s t (t / l) := fun u0 g2 => by
    refine ⟨by constructor <;> omega, fun y hy => ?_⟩
    have i2 := div_iff (s := t) (y := y) g2
    subst u0
    rw [← i2, z1]
    constructor
    · intro h; refine ⟨by omega, by omega, by omega, fun _ z => absurd z (by omega)⟩
    · rintro ⟨a1, a2, -, -⟩; omega
  refine MS_of (ls := [lr b, li p, li s, li t, lu, lu]) f1_most rfl rfl (Nat.le_of_ble_eq_true rfl) ?_
  refine w_aload i1_most_0 rfl ?_
  refine w_getr i1_most_1 hB.1 rfl ?_
  refine w_iload i1_most_4 rfl ?_
  refine w_iald i1_most_5 hB.2.1 (by omega) ?_
  rw [hu]
  refine w_ifne i1_most_6 (fun h6 => ?_) (fun h6 => ?_)
  · refine w_aload i1_most_20 rfl ?_
    refine w_getr i1_most_21 hB.1 rfl ?_
    refine w_iload i1_most_24 rfl ?_
    refine w_iald i1_most_25 hB.2.1 (by omega) ?_
    rw [hu]
    refine w_ifle i1_most_26 (fun h26 => ?_) (fun h26 => ?_)
    · refine w_const i1_most_40 ?_
      refine w_is4 i1_most_42 ?_
      refine w_aload i1_most_44 rfl ?_
      refine w_getr i1_most_45 hB.1 rfl ?_
      refine w_iload i1_most_48 rfl ?_
      refine w_iald i1_most_49 hB.2.2.1 (by omega) ?_
      rw [hl]
      refine w_ifle i1_most_50 (fun h50 => ?_) (fun h50 => ?_)
      · refine w_const i1_most_64 ?_
        refine w_is5 i1_most_66 ?_
        refine w_iload i1_most_68 rfl ?_
        refine w_iload i1_most_70 rfl ?_
        refine w_icmpge i1_most_72 (fun h72 => ?_) (fun h72 => ?_)
        · refine w_iload i1_most_80 rfl ?_
          refine w_iret i1_most_82 (Or.inl rfl) ⟨Nat.le_refl _, Nat.le_refl _⟩ ?_
          first
          | exact absurd h26 (by omega)
          | (refine ⟨rfl, _, rfl, ?_, rfl, rfl⟩
             first
               | exact both (by omega) (by omega) _ (Or.inl rfl) (by omega) (by omega)
               | exact both (by omega) (by omega) _ (Or.inr rfl) (by omega) (by omega)
               | exact onlyu (by omega) (by omega)
               | exact onlyl (by omega) (by omega)
               | (have e : s / u = 127 := by omega
                  have z := onlyu (by omega) (by omega)
                  rw [e] at z
                  exact z)
               | exact absurd (show u = 0 by omega) (by omega))
        · refine w_iload i1_most_75 rfl ?_
          refine w_goto i1_most_77 ?_
          refine w_iret i1_most_82 (Or.inl rfl) ⟨Nat.le_refl _, Nat.le_refl _⟩ ?_
          first
          | exact absurd h26 (by omega)
          | (refine ⟨rfl, _, rfl, ?_, rfl, rfl⟩
             first
               | exact both (by omega) (by omega) _ (Or.inl rfl) (by omega) (by omega)
               | exact both (by omega) (by omega) _ (Or.inr rfl) (by omega) (by omega)
               | exact onlyu (by omega) (by omega)
               | exact onlyl (by omega) (by omega)
               | (have e : s / u = 127 := by omega
                  have z := onlyu (by omega) (by omega)
                  rw [e] at z
                  exact z)
               | exact absurd (show u = 0 by omega) (by omega))
      · refine w_iload i1_most_53 rfl ?_
        refine w_aload i1_most_54 rfl ?_
        refine w_getr i1_most_55 hB.1 rfl ?_
        refine w_iload i1_most_58 rfl ?_
        refine w_iald i1_most_59 hB.2.2.1 (by omega) ?_
        rw [hl]
        refine w_idiv i1_most_60 (by omega) ((by rw [el]; constructor <;> omega)) ?_
        rw [el]
        refine w_goto i1_most_61 ?_
        refine w_is5 i1_most_66 ?_
        refine w_iload i1_most_68 rfl ?_
        refine w_iload i1_most_70 rfl ?_
        refine w_icmpge i1_most_72 (fun h72 => ?_) (fun h72 => ?_)
        · refine w_iload i1_most_80 rfl ?_
          refine w_iret i1_most_82 (Or.inl rfl) ⟨Nat.le_refl _, Nat.le_refl _⟩ ?_
          first
          | exact absurd h26 (by omega)
          | (refine ⟨rfl, _, rfl, ?_, rfl, rfl⟩
             first
               | exact both (by omega) (by omega) _ (Or.inl rfl) (by omega) (by omega)
               | exact both (by omega) (by omega) _ (Or.inr rfl) (by omega) (by omega)
               | exact onlyu (by omega) (by omega)
               | exact onlyl (by omega) (by omega)
               | (have e : s / u = 127 := by omega
                  have z := onlyu (by omega) (by omega)
                  rw [e] at z
                  exact z)
               | exact absurd (show u = 0 by omega) (by omega))
        · refine w_iload i1_most_75 rfl ?_
          refine w_goto i1_most_77 ?_
          refine w_iret i1_most_82 (Or.inl rfl) ⟨Nat.le_refl _, Nat.le_refl _⟩ ?_
          first
          | exact absurd h26 (by omega)
          | (refine ⟨rfl, _, rfl, ?_, rfl, rfl⟩
             first
               | exact both (by omega) (by omega) _ (Or.inl rfl) (by omega) (by omega)
               | exact both (by omega) (by omega) _ (Or.inr rfl) (by omega) (by omega)
               | exact onlyu (by omega) (by omega)
               | exact onlyl (by omega) (by omega)
               | (have e : s / u = 127 := by omega
                  have z := onlyu (by omega) (by omega)
                  rw [e] at z
                  exact z)
               | exact absurd (show u = 0 by omega) (by omega))
    · refine w_iload i1_most_29 rfl ?_
      refine w_aload i1_most_30 rfl ?_
      refine w_getr i1_most_31 hB.1 rfl ?_
      refine w_iload i1_most_34 rfl ?_
      refine w_iald i1_most_35 hB.2.1 (by omega) ?_
      rw [hu]
      refine w_idiv i1_most_36 (by omega) ((by rw [eu]; constructor <;> omega)) ?_
      rw [eu]
      refine w_goto i1_most_37 ?_
      refine w_is4 i1_most_42 ?_
      refine w_aload i1_most_44 rfl ?_
      refine w_getr i1_most_45 hB.1 rfl ?_
      refine w_iload i1_most_48 rfl ?_
      refine w_iald i1_most_49 hB.2.2.1 (by omega) ?_
      rw [hl]
      refine w_ifle i1_most_50 (fun h50 => ?_) (fun h50 => ?_)
      · refine w_const i1_most_64 ?_
        refine w_is5 i1_most_66 ?_
        refine w_iload i1_most_68 rfl ?_
        refine w_iload i1_most_70 rfl ?_
        refine w_icmpge i1_most_72 (fun h72 => ?_) (fun h72 => ?_)
        · refine w_iload i1_most_80 rfl ?_
          refine w_iret i1_most_82 (Or.inl rfl) ⟨Nat.le_refl _, Nat.le_refl _⟩ ?_
          first
          | exact absurd h26 (by omega)
          | (refine ⟨rfl, _, rfl, ?_, rfl, rfl⟩
             first
               | exact both (by omega) (by omega) _ (Or.inl rfl) (by omega) (by omega)
               | exact both (by omega) (by omega) _ (Or.inr rfl) (by omega) (by omega)
               | exact onlyu (by omega) (by omega)
               | exact onlyl (by omega) (by omega)
               | (have e : s / u = 127 := by omega
                  have z := onlyu (by omega) (by omega)
                  rw [e] at z
                  exact z)
               | exact absurd (show u = 0 by omega) (by omega))
        · refine w_iload i1_most_75 rfl ?_
          refine w_goto i1_most_77 ?_
          refine w_iret i1_most_82 (Or.inl rfl) ⟨Nat.le_refl _, Nat.le_refl _⟩ ?_
          first
          | exact absurd h26 (by omega)
          | (refine ⟨rfl, _, rfl, ?_, rfl, rfl⟩
             first
               | exact both (by omega) (by omega) _ (Or.inl rfl) (by omega) (by omega)
               | exact both (by omega) (by omega) _ (Or.inr rfl) (by omega) (by omega)
               | exact onlyu (by omega) (by omega)
               | exact onlyl (by omega) (by omega)
               | (have e : s / u = 127 := by omega
                  have z := onlyu (by omega) (by omega)
                  rw [e] at z
                  exact z)
               | exact absurd (show u = 0 by omega) (by omega))
      · refine w_iload i1_most_53 rfl ?_
        refine w_aload i1_most_54 rfl ?_
        refine w_getr i1_most_55 hB.1 rfl ?_
        refine w_iload i1_most_58 rfl ?_
        refine w_iald i1_most_59 hB.2.2.1 (by omega) ?_
        rw [hl]
        refine w_idiv i1_most_60 (by omega) ((by rw [el]; constructor <;> omega)) ?_
        rw [el]
        refine w_goto i1_most_61 ?_
        refine w_is5 i1_most_66 ?_
        refine w_iload i1_most_68 rfl ?_
        refine w_iload i1_most_70 rfl ?_
        refine w_icmpge i1_most_72 (fun h72 => ?_) (fun h72 => ?_)
        · refine w_iload i1_most_80 rfl ?_
          refine w_iret i1_most_82 (Or.inl rfl) ⟨Nat.le_refl _, Nat.le_refl _⟩ ?_
          first
          | exact absurd h26 (by omega)
          | (refine ⟨rfl, _, rfl, ?_, rfl, rfl⟩
             first
               | exact both (by omega) (by omega) _ (Or.inl rfl) (by omega) (by omega)
               | exact both (by omega) (by omega) _ (Or.inr rfl) (by omega) (by omega)
               | exact onlyu (by omega) (by omega)
               | exact onlyl (by omega) (by omega)
               | (have e : s / u = 127 := by omega
                  have z := onlyu (by omega) (by omega)
                  rw [e] at z
                  exact z)
               | exact absurd (show u = 0 by omega) (by omega))
        · refine w_iload i1_most_75 rfl ?_
          refine w_goto i1_most_77 ?_
          refine w_iret i1_most_82 (Or.inl rfl) ⟨Nat.le_refl _, Nat.le_refl _⟩ ?_
          first
          | exact absurd h26 (by omega)
          | (refine ⟨rfl, _, rfl, ?_, rfl, rfl⟩
             first
               | exact both (by omega) (by omega) _ (Or.inl rfl) (by omega) (by omega)
               | exact both (by omega) (by omega) _ (Or.inr rfl) (by omega) (by omega)
               | exact onlyu (by omega) (by omega)
               | exact onlyl (by omega) (by omega)
               | (have e : s / u = 127 := by omega
                  have z := onlyu (by omega) (by omega)
                  rw [e] at z
                  exact z)
               | exact absurd (show u = 0 by omega) (by omega))
  · refine w_aload i1_most_9 rfl ?_
    refine w_getr i1_most_10 hB.1 rfl ?_
    refine w_iload i1_most_13 rfl ?_
    refine w_iald i1_most_14 hB.2.2.1 (by omega) ?_
    rw [hl]
    refine w_ifne i1_most_15 (fun h15 => ?_) (fun h15 => ?_)
    · refine w_aload i1_most_20 rfl ?_
      refine w_getr i1_most_21 hB.1 rfl ?_
      refine w_iload i1_most_24 rfl ?_
      refine w_iald i1_most_25 hB.2.1 (by omega) ?_
      rw [hu]
      refine w_ifle i1_most_26 (fun h26 => ?_) (fun h26 => ?_)
      · refine w_const i1_most_40 ?_
        refine w_is4 i1_most_42 ?_
        refine w_aload i1_most_44 rfl ?_
        refine w_getr i1_most_45 hB.1 rfl ?_
        refine w_iload i1_most_48 rfl ?_
        refine w_iald i1_most_49 hB.2.2.1 (by omega) ?_
        rw [hl]
        refine w_ifle i1_most_50 (fun h50 => ?_) (fun h50 => ?_)
        · refine w_const i1_most_64 ?_
          refine w_is5 i1_most_66 ?_
          refine w_iload i1_most_68 rfl ?_
          refine w_iload i1_most_70 rfl ?_
          refine w_icmpge i1_most_72 (fun h72 => ?_) (fun h72 => ?_)
          · refine w_iload i1_most_80 rfl ?_
            refine w_iret i1_most_82 (Or.inl rfl) ⟨Nat.le_refl _, Nat.le_refl _⟩ ?_
            first
            | exact absurd h26 (by omega)
            | (refine ⟨rfl, _, rfl, ?_, rfl, rfl⟩
               first
                 | exact both (by omega) (by omega) _ (Or.inl rfl) (by omega) (by omega)
                 | exact both (by omega) (by omega) _ (Or.inr rfl) (by omega) (by omega)
                 | exact onlyu (by omega) (by omega)
                 | exact onlyl (by omega) (by omega)
                 | (have e : s / u = 127 := by omega
                    have z := onlyu (by omega) (by omega)
                    rw [e] at z
                    exact z)
                 | exact absurd (show u = 0 by omega) (by omega))
          · refine w_iload i1_most_75 rfl ?_
            refine w_goto i1_most_77 ?_
            refine w_iret i1_most_82 (Or.inl rfl) ⟨Nat.le_refl _, Nat.le_refl _⟩ ?_
            first
            | exact absurd h26 (by omega)
            | (refine ⟨rfl, _, rfl, ?_, rfl, rfl⟩
               first
                 | exact both (by omega) (by omega) _ (Or.inl rfl) (by omega) (by omega)
                 | exact both (by omega) (by omega) _ (Or.inr rfl) (by omega) (by omega)
                 | exact onlyu (by omega) (by omega)
                 | exact onlyl (by omega) (by omega)
                 | (have e : s / u = 127 := by omega
                    have z := onlyu (by omega) (by omega)
                    rw [e] at z
                    exact z)
                 | exact absurd (show u = 0 by omega) (by omega))
        · refine w_iload i1_most_53 rfl ?_
          refine w_aload i1_most_54 rfl ?_
          refine w_getr i1_most_55 hB.1 rfl ?_
          refine w_iload i1_most_58 rfl ?_
          refine w_iald i1_most_59 hB.2.2.1 (by omega) ?_
          rw [hl]
          refine w_idiv i1_most_60 (by omega) ((by rw [el]; constructor <;> omega)) ?_
          rw [el]
          refine w_goto i1_most_61 ?_
          refine w_is5 i1_most_66 ?_
          refine w_iload i1_most_68 rfl ?_
          refine w_iload i1_most_70 rfl ?_
          refine w_icmpge i1_most_72 (fun h72 => ?_) (fun h72 => ?_)
          · refine w_iload i1_most_80 rfl ?_
            refine w_iret i1_most_82 (Or.inl rfl) ⟨Nat.le_refl _, Nat.le_refl _⟩ ?_
            first
            | exact absurd h26 (by omega)
            | (refine ⟨rfl, _, rfl, ?_, rfl, rfl⟩
               first
                 | exact both (by omega) (by omega) _ (Or.inl rfl) (by omega) (by omega)
                 | exact both (by omega) (by omega) _ (Or.inr rfl) (by omega) (by omega)
                 | exact onlyu (by omega) (by omega)
                 | exact onlyl (by omega) (by omega)
                 | (have e : s / u = 127 := by omega
                    have z := onlyu (by omega) (by omega)
                    rw [e] at z
                    exact z)
                 | exact absurd (show u = 0 by omega) (by omega))
          · refine w_iload i1_most_75 rfl ?_
            refine w_goto i1_most_77 ?_
            refine w_iret i1_most_82 (Or.inl rfl) ⟨Nat.le_refl _, Nat.le_refl _⟩ ?_
            first
            | exact absurd h26 (by omega)
            | (refine ⟨rfl, _, rfl, ?_, rfl, rfl⟩
               first
                 | exact both (by omega) (by omega) _ (Or.inl rfl) (by omega) (by omega)
                 | exact both (by omega) (by omega) _ (Or.inr rfl) (by omega) (by omega)
                 | exact onlyu (by omega) (by omega)
                 | exact onlyl (by omega) (by omega)
                 | (have e : s / u = 127 := by omega
                    have z := onlyu (by omega) (by omega)
                    rw [e] at z
                    exact z)
                 | exact absurd (show u = 0 by omega) (by omega))
      · refine w_iload i1_most_29 rfl ?_
        refine w_aload i1_most_30 rfl ?_
        refine w_getr i1_most_31 hB.1 rfl ?_
        refine w_iload i1_most_34 rfl ?_
        refine w_iald i1_most_35 hB.2.1 (by omega) ?_
        rw [hu]
        refine w_idiv i1_most_36 (by omega) ((by rw [eu]; constructor <;> omega)) ?_
        rw [eu]
        refine w_goto i1_most_37 ?_
        refine w_is4 i1_most_42 ?_
        refine w_aload i1_most_44 rfl ?_
        refine w_getr i1_most_45 hB.1 rfl ?_
        refine w_iload i1_most_48 rfl ?_
        refine w_iald i1_most_49 hB.2.2.1 (by omega) ?_
        rw [hl]
        refine w_ifle i1_most_50 (fun h50 => ?_) (fun h50 => ?_)
        · refine w_const i1_most_64 ?_
          refine w_is5 i1_most_66 ?_
          refine w_iload i1_most_68 rfl ?_
          refine w_iload i1_most_70 rfl ?_
          refine w_icmpge i1_most_72 (fun h72 => ?_) (fun h72 => ?_)
          · refine w_iload i1_most_80 rfl ?_
            refine w_iret i1_most_82 (Or.inl rfl) ⟨Nat.le_refl _, Nat.le_refl _⟩ ?_
            first
            | exact absurd h26 (by omega)
            | (refine ⟨rfl, _, rfl, ?_, rfl, rfl⟩
               first
                 | exact both (by omega) (by omega) _ (Or.inl rfl) (by omega) (by omega)
                 | exact both (by omega) (by omega) _ (Or.inr rfl) (by omega) (by omega)
                 | exact onlyu (by omega) (by omega)
                 | exact onlyl (by omega) (by omega)
                 | (have e : s / u = 127 := by omega
                    have z := onlyu (by omega) (by omega)
                    rw [e] at z
                    exact z)
                 | exact absurd (show u = 0 by omega) (by omega))
          · refine w_iload i1_most_75 rfl ?_
            refine w_goto i1_most_77 ?_
            refine w_iret i1_most_82 (Or.inl rfl) ⟨Nat.le_refl _, Nat.le_refl _⟩ ?_
            first
            | exact absurd h26 (by omega)
            | (refine ⟨rfl, _, rfl, ?_, rfl, rfl⟩
               first
                 | exact both (by omega) (by omega) _ (Or.inl rfl) (by omega) (by omega)
                 | exact both (by omega) (by omega) _ (Or.inr rfl) (by omega) (by omega)
                 | exact onlyu (by omega) (by omega)
                 | exact onlyl (by omega) (by omega)
                 | (have e : s / u = 127 := by omega
                    have z := onlyu (by omega) (by omega)
                    rw [e] at z
                    exact z)
                 | exact absurd (show u = 0 by omega) (by omega))
        · refine w_iload i1_most_53 rfl ?_
          refine w_aload i1_most_54 rfl ?_
          refine w_getr i1_most_55 hB.1 rfl ?_
          refine w_iload i1_most_58 rfl ?_
          refine w_iald i1_most_59 hB.2.2.1 (by omega) ?_
          rw [hl]
          refine w_idiv i1_most_60 (by omega) ((by rw [el]; constructor <;> omega)) ?_
          rw [el]
          refine w_goto i1_most_61 ?_
          refine w_is5 i1_most_66 ?_
          refine w_iload i1_most_68 rfl ?_
          refine w_iload i1_most_70 rfl ?_
          refine w_icmpge i1_most_72 (fun h72 => ?_) (fun h72 => ?_)
          · refine w_iload i1_most_80 rfl ?_
            refine w_iret i1_most_82 (Or.inl rfl) ⟨Nat.le_refl _, Nat.le_refl _⟩ ?_
            first
            | exact absurd h26 (by omega)
            | (refine ⟨rfl, _, rfl, ?_, rfl, rfl⟩
               first
                 | exact both (by omega) (by omega) _ (Or.inl rfl) (by omega) (by omega)
                 | exact both (by omega) (by omega) _ (Or.inr rfl) (by omega) (by omega)
                 | exact onlyu (by omega) (by omega)
                 | exact onlyl (by omega) (by omega)
                 | (have e : s / u = 127 := by omega
                    have z := onlyu (by omega) (by omega)
                    rw [e] at z
                    exact z)
                 | exact absurd (show u = 0 by omega) (by omega))
          · refine w_iload i1_most_75 rfl ?_
            refine w_goto i1_most_77 ?_
            refine w_iret i1_most_82 (Or.inl rfl) ⟨Nat.le_refl _, Nat.le_refl _⟩ ?_
            first
            | exact absurd h26 (by omega)
            | (refine ⟨rfl, _, rfl, ?_, rfl, rfl⟩
               first
                 | exact both (by omega) (by omega) _ (Or.inl rfl) (by omega) (by omega)
                 | exact both (by omega) (by omega) _ (Or.inr rfl) (by omega) (by omega)
                 | exact onlyu (by omega) (by omega)
                 | exact onlyl (by omega) (by omega)
                 | (have e : s / u = 127 := by omega
                    have z := onlyu (by omega) (by omega)
                    rw [e] at z
                    exact z)
                 | exact absurd (show u = 0 by omega) (by omega))
    · refine w_const i1_most_18 ?_
      refine w_iret i1_most_19 (Or.inl rfl) ⟨Nat.le_refl _, Nat.le_refl _⟩ ?_
      refine ⟨rfl, _, rfl, ⟨by decide, fun y hy => ⟨fun h => ?_, fun h => ?_⟩⟩, rfl, rfl⟩
      · have : y = 0 := by omega
        subst this
        exact ⟨by rw [Int.mul_zero]; exact hs.1, by rw [Int.mul_zero]; exact ht.1, by decide, fun _ _ => rfl⟩
      · have := h.2.2.2 h6 h15; omega
/-- the vectors of a fiber, by the four places -/
def FS (u l : Int → Int) (s t : Int) (y : Int → Int) : Prop := (∀ i, 0 ≤ i ∧ i < 4 → 0 ≤ y i ∧ y i ≤ 127 ∧ (u i = 0 → l i = 0 → y i = 0)) ∧ u 0 * y 0 + u 1 * y 1 + u 2 * y 2 + u 3 * y 3 = s ∧ l 0 * y 0 + l 1 * y 1 + l 2 * y 2 + l 3 * y 3 = t
def pre3 (y : Int → Int) : Int := (y 0 * 128 + y 1) * 128 + y 2
def cd4 (y : Int → Int) : Int := pre3 y * 128 + y 3
/-- the codes of the vectors whose first three entries come ahead of p, sorted -/
def LInv (u l : Int → Int) (s t p m : Int) (f : Int → Int) : Prop := 0 ≤ m ∧ (∀ i j, 0 ≤ i ∧ i < j ∧ j < m → f i < f j) ∧ ∀ x, (∃ i, 0 ≤ i ∧ i < m ∧ f i = x) ↔ ∃ y, FS u l s t y ∧ pre3 y < p ∧ x = cd4 y
theorem LInv.skip {u l : Int → Int} {s t p p' m : Int} {f : Int → Int} (h : LInv u l s t p m f) (hp : p ≤ p') (hno : ∀ y, FS u l s t y → p ≤ pre3 y → pre3 y < p' → False) : LInv u l s t p' m f := by
  refine ⟨h.1, h.2.1, fun x => ?_⟩
  rw [h.2.2 x]
  constructor
  · rintro ⟨y, h1, h2, h3⟩; exact ⟨y, h1, by omega, h3⟩
  · rintro ⟨y, h1, h2, h3⟩
    by_cases g : pre3 y < p
    · exact ⟨y, h1, g, h3⟩
    · exact (hno y h1 (by omega) h2).elim
theorem LInv.put {u l : Int → Int} {s t p m : Int} {f f' : Int → Int} {y : Int → Int} (h : LInv u l s t p m f) (hy : FS u l s t y) (hp : pre3 y = p) (hun : ∀ z, FS u l s t z → pre3 z = p → z 3 = y 3) (hf : ∀ i, 0 ≤ i ∧ i < m → f' i = f i) (hf2 : f' m = cd4 y) : LInv u l s t (p + 1) (m + 1) f' := by
  obtain ⟨h0, h1, h2⟩ := h
  refine ⟨by omega, fun i j hij => ?_, fun x => ⟨?_, ?_⟩⟩
  · by_cases hj : j = m
    · subst hj
      rw [hf i (by omega), hf2]
      obtain ⟨z, z1, z2, z3⟩ := (h2 (f i)).mp ⟨i, hij.1, by omega, rfl⟩
      have a := (z1.1 3 (by decide)).2.1
      have b := (hy.1 3 (by decide)).1
      rw [z3]
      unfold cd4
      omega
    · rw [hf i (by omega), hf j (by omega)]; exact h1 i j (by omega)
  · rintro ⟨i, i1, i2, i3⟩
    by_cases hi : i = m
    · subst hi; exact ⟨y, hy, by omega, by rw [← i3, hf2]⟩
    · obtain ⟨z, z1, z2, z3⟩ := (h2 x).mp ⟨i, i1, by omega, by rw [← i3, hf i (by omega)]⟩
      exact ⟨z, z1, by omega, z3⟩
  · rintro ⟨z, z1, z2, z3⟩
    by_cases g : pre3 z < p
    · obtain ⟨i, i1, i2, i3⟩ := (h2 x).mpr ⟨z, z1, g, z3⟩
      exact ⟨i, i1, by omega, by rw [hf i (by omega)]; exact i3⟩
    · have gp : pre3 z = p := by omega
      refine ⟨m, h0, by omega, ?_⟩
      rw [hf2, z3]
      unfold cd4
      rw [hun z z1 gp, hp, gp]
/-- what the listing may change -/
def Ffr (b : Nat) (I I' : IE) (F F' : FE) : Prop := (∀ a k, (a ≠ b ∨ k ≠ 0) → I' a k = I a k) ∧ ∀ a, a ≠ b + 3 → F' a = F a
theorem Ffr.tr {b : Nat} {I I1 I2 : IE} {F F1 F2 : FE} (h : Ffr b I I1 F F1) (g : Ffr b I1 I2 F1 F2) : Ffr b I I2 F F2 := ⟨fun a k ha => (g.1 a k ha).trans (h.1 a k ha), fun a h1 => (g.2 a h1).trans (h.2 a h1)⟩
theorem Ffr.rf {b : Nat} {I : IE} {F : FE} : Ffr b I I F F := ⟨fun _ _ _ => rfl, fun _ _ => rfl⟩
def Col (F : FE) (b : Nat) : Prop := (∀ i, 0 ≤ i ∧ i < 4 → 0 ≤ F (b + 1) i ∧ F (b + 1) i ≤ 3) ∧ (∀ i, 0 ≤ i ∧ i < 4 → 0 ≤ F (b + 2) i ∧ F (b + 2) i ≤ 3) ∧ ¬ (F (b + 1) 3 = 0 ∧ F (b + 2) 3 = 0)
theorem mul_le3 {u y B : Int} (hu : 0 ≤ u ∧ u ≤ 3) (hy : 0 ≤ y ∧ y ≤ B) : 0 ≤ u * y ∧ u * y ≤ 3 * B := by
  refine ⟨Int.mul_nonneg hu.1 hy.1, ?_⟩
  rcases (show u = 0 ∨ u = 1 ∨ u = 2 ∨ u = 3 by omega) with rfl | rfl | rfl | rfl <;> omega
/-- what one turn of the inner loop finds -/
theorem one_turn {F : FE} {b N : Nat} {s t a0 a1 a2 l1 l2 v m : Int} {f : Int → Int} (hC : Col F b) (ha : (0 ≤ a0 ∧ a0 ≤ 127) ∧ (0 ≤ a1 ∧ a1 ≤ 127) ∧ (0 ≤ a2 ∧ a2 ≤ 127)) (hz : ∀ i, 0 ≤ i ∧ i < 3 → F (b + 1) i = 0 → F (b + 2) i = 0 → (if i = 0 then a0 else if i = 1 then a1 else a2) = 0)
    (e1 : F (b + 1) 0 * a0 + F (b + 1) 1 * a1 + F (b + 1) 2 * a2 + l1 = s) (e2 : F (b + 2) 0 * a0 + F (b + 2) 1 * a1 + F (b + 2) 2 * a2 + l2 = t) (hl1 : 0 ≤ l1 ∧ l1 ≤ 127) (hl2 : 0 ≤ l2 ∧ l2 ≤ 127)
    (hL : LInv (F (b + 1)) (F (b + 2)) s t ((a0 * 128 + a1) * 128 + a2) m f) (hcap : ∀ p m f, LInv (F (b + 1)) (F (b + 2)) s t p m f → m ≤ N) (hv : MostP (F (b + 1) 3) (F (b + 2) 3) l1 l2 v) :
    (¬ (F (b + 1) 3 * v = l1 ∧ F (b + 2) 3 * v = l2) → LInv (F (b + 1)) (F (b + 2)) s t ((a0 * 128 + a1) * 128 + a2 + 1) m f) ∧
    ((F (b + 1) 3 * v = l1 ∧ F (b + 2) 3 * v = l2) → m + 1 ≤ N ∧ ∀ f', (∀ i, 0 ≤ i ∧ i < m → f' i = f i) → f' m = ((a0 * 128 + a1) * 128 + a2) * 128 + v → LInv (F (b + 1)) (F (b + 2)) s t ((a0 * 128 + a1) * 128 + a2 + 1) (m + 1) f') := by
  generalize hu : F (b + 1) = u at *
  generalize hl : F (b + 2) = l at *
  have hu3 := (hC.1 3 (by decide))
  have hl3 := (hC.2.1 3 (by decide))
  rw [hu] at hu3
  rw [hl] at hl3
  have hC3 := hC.2.2
  rw [hu, hl] at hC3
  /- a vector with this beginning -/
  have vec : ∀ z, FS u l s t z → pre3 z = (a0 * 128 + a1) * 128 + a2 → z 0 = a0 ∧ z 1 = a1 ∧ z 2 = a2 ∧ u 3 * z 3 = l1 ∧ l 3 * z 3 = l2 := fun z hz' hp => by
    have b0 := hz'.1 0 (by decide); have b1 := hz'.1 1 (by decide); have b2 := hz'.1 2 (by decide)
    unfold pre3 at hp
    have c0 : z 0 = a0 := by omega
    have c1 : z 1 = a1 := by omega
    have c2 : z 2 = a2 := by omega
    obtain ⟨-, g1, g2⟩ := hz'
    rw [c0, c1, c2] at g1 g2
    exact ⟨c0, c1, c2, by omega, by omega⟩
  have uniq : ∀ v y : Int, 0 ≤ v → 0 ≤ y → MostP (u 3) (l 3) l1 l2 v → u 3 * y = l1 → l 3 * y = l2 → y ≤ 127 → u 3 * v = l1 ∧ l 3 * v = l2 ∧ y = v := fun v y hv hy hm g1 g2 hy127 => by
    have hyv := (hm.2 y hy).mpr ⟨by omega, by omega, hy127, fun q1 q2 => absurd ⟨q1, q2⟩ hC3⟩
    have hvv := (hm.2 v hv).mp (Int.le_refl _)
    have : y = v := by
      by_cases hu0 : 0 < u 3
      · have : u 3 * v ≤ u 3 * y := by omega
        have := Int.le_of_mul_le_mul_left this hu0
        omega
      · have hl0 : 0 < l 3 := by omega
        have : l 3 * v ≤ l 3 * y := by omega
        have := Int.le_of_mul_le_mul_left this hl0
        omega
    subst this
    exact ⟨g1, g2, rfl⟩
  have hv127 := hv.1
  have full : (u 3 * v = l1 ∧ l 3 * v = l2) → ∀ f', (∀ i, 0 ≤ i ∧ i < m → f' i = f i) → f' m = ((a0 * 128 + a1) * 128 + a2) * 128 + v → LInv u l s t ((a0 * 128 + a1) * 128 + a2 + 1) (m + 1) f' := fun hyes f' hf hf2 => by
    refine hL.put (y := fun i => if i = 0 then a0 else if i = 1 then a1 else if i = 2 then a2 else v) ⟨fun i hi => ?_, ?_, ?_⟩ ?_ (fun z hz' hp => ?_) hf ?_
    · rcases (show i = 0 ∨ i = 1 ∨ i = 2 ∨ i = 3 by omega) with rfl | rfl | rfl | rfl
      · exact ⟨ha.1.1, ha.1.2, fun q1 q2 => hz 0 (by decide) q1 q2⟩
      · exact ⟨ha.2.1.1, ha.2.1.2, fun q1 q2 => hz 1 (by decide) q1 q2⟩
      · exact ⟨ha.2.2.1, ha.2.2.2, fun q1 q2 => hz 2 (by decide) q1 q2⟩
      · exact ⟨hv127.1, hv127.2, fun q1 q2 => absurd ⟨q1, q2⟩ hC3⟩
    · show u 0 * a0 + u 1 * a1 + u 2 * a2 + u 3 * v = s
      omega
    · show l 0 * a0 + l 1 * a1 + l 2 * a2 + l 3 * v = t
      omega
    · rfl
    · obtain ⟨-, -, -, g1, g2⟩ := vec z hz' hp
      have b3 := hz'.1 3 (by decide)
      exact (uniq v (z 3) hv127.1 b3.1 hv g1 g2 b3.2.1).2.2
    · rw [hf2]; rfl
  refine ⟨fun hno => hL.skip (by omega) (fun z hz' h1 h2 => ?_), fun hyes => ⟨?_, full hyes⟩⟩
  · obtain ⟨-, -, -, g1, g2⟩ := vec z hz' (by omega)
    have b3 := hz'.1 3 (by decide)
    have := uniq v (z 3) hv127.1 b3.1 hv g1 g2 b3.2.1
    exact hno ⟨this.1, this.2.1⟩
  · refine hcap _ _ _ (full hyes (fun i => if i = m then ((a0 * 128 + a1) * 128 + a2) * 128 + v else f i) (fun i hi => by show (if i = m then _ else _) = _; rw [if_neg (by omega)]) (by show (if m = m then _ else _) = _; rw [if_pos rfl]))
