/-- f with x at p -/
def ups (f : Int → Int) (p x : Int) : Int → Int := fun j => if j = p then x else f j
theorem dt_last {M f : Int → Int} {r x : Int} {l : Nat} : dt M (ups f l x) r (l + 1) = dt M f r l + M (r * 4 + l) * x := by
  simp only [dt]
  rw [dt_ext (w := f) l (fun j hj => by unfold ups; rw [if_neg (by omega)])]
  unfold ups
  rw [if_pos rfl]
theorem ker_last {M f : Int → Int} {n x : Int} {l : Nat} (hl : (l : Int) + 1 = n) : KerF M n (ups f l x) ↔ dt M f 0 l + M l * x = 0 ∧ dt M f 1 l + M (4 + l) * x = 0 := by
  unfold KerF
  rw [show n.toNat = l + 1 by omega, dt_last, dt_last, show (0 : Int) * 4 + l = l by omega, show (1 : Int) * 4 + l = 4 + l by omega]
/-- the last entry: r brings the vector into the kernel, or nothing within the bound does -/
def LE (M f : Int → Int) (n b : Int) (l : Nat) (r : Int) : Prop := ((-b ≤ r ∧ r ≤ b) ∧ KerF M n (ups f l r) ∧ (M l = 0 → M (4 + l) = 0 → r = 0)) ∨ (r = b + 1 ∧ ∀ x, -b ≤ x ∧ x ≤ b → ¬ KerF M n (ups f l x))
theorem lr_le94 {d n0 : Nat} {Q : PQ} {I : IE} {F : FE} {M : Int → Int} {b A B D Sm V : Int} {l : Nat} (hd : 1 ≤ d) (hM : NM M F) (hl : l ≤ 3) (hA : -1000 ≤ A ∧ A ≤ 1000) (hB : -1000 ≤ B ∧ B ≤ 1000) (hV : -300 ≤ V ∧ V ≤ 300) (hb : 1 ≤ b ∧ b ≤ 18)
    (K : ∀ r, ((A + M l * V = 0 ∧ B + M (4 + l) * V = 0) ∧ (-b ≤ V ∧ V ≤ b) ∧ r = V) ∨ (¬ ((A + M l * V = 0 ∧ B + M (4 + l) * V = 0) ∧ -b ≤ V ∧ V ≤ b) ∧ r = b + 1) → Q (some (.inl r)) shM I F) : WS m8_lastEntry d 0 0 n0 Q 0 0 94 [lr 0, li b, li l, li A, li B, li D, li Sm, li V, lu] [] shM I F := by
  have m1 := mulb (hM.2 l) (B := 300) hV
  have m2 := mulb (hM.2 (4 + l)) (B := 300) hV
  have e0 : (0 : Int) * 4 + l = l := by omega
  have e1 : (1 : Int) * 4 + l = 4 + l := by omega
  have hab : ab V ≤ b ↔ -b ≤ V ∧ V ≤ b := by unfold ab; split <;> omega
  refine w_iload i8_lastEntry_94 rfl ?_
  refine w_aload i8_lastEntry_95 rfl ?_
  refine w_const i8_lastEntry_96 ?_
  refine w_iload i8_lastEntry_97 rfl ?_
  refine w_cVR i8_lastEntry_98 f8_at v8_at (r_at hM (by omega) (by omega)) rfl rfl (by decide) rfl rfl (Nat.le_of_ble_eq_true rfl) (by omega) ?_
  rw [e0]
  refine w_iload i8_lastEntry_101 rfl ?_
  refine w_imul i8_lastEntry_103 (by omega) ?_
  refine w_iadd i8_lastEntry_104 (by omega) ?_
  refine w_ifne i8_lastEntry_105 (fun h105 => ?_) (fun h105 => ?_)
  · refine w_const i8_lastEntry_127 ?_
    refine w_is8 i8_lastEntry_128 ?_
    refine w_iload i8_lastEntry_130 rfl ?_
    refine w_ifeq i8_lastEntry_132 (fun h132 => ?_) (fun h132 => ?_)
    · refine w_iload i8_lastEntry_149 rfl ?_
      refine w_const i8_lastEntry_150 ?_
      refine w_iadd i8_lastEntry_151 (by omega) ?_
      refine w_iret i8_lastEntry_152 (Or.inl rfl) ⟨Nat.le_refl _, Nat.le_refl _⟩ ?_
      refine K _ ?_
      first
        | exact absurd (show (1 : Int) = 0 by assumption) (by decide)
        | exact absurd (rfl : (0 : Int) = 0) (by assumption)
        | exact Or.inl ⟨⟨by assumption, by assumption⟩, hab.mp (by assumption), rfl⟩
        | (refine Or.inr ⟨fun h => ?_, rfl⟩
           have := hab.mpr h.2
           omega)
        | (refine Or.inr ⟨fun h => ?_, rfl⟩
           omega)
    · refine w_iload i8_lastEntry_135 rfl ?_
      refine w_cSR i8_lastEntry_137 f8_size v8_size (r_size (by omega)) rfl rfl (Nat.le_of_ble_eq_true rfl) (by omega) ?_
      refine w_iload i8_lastEntry_140 rfl ?_
      refine w_icmpgt i8_lastEntry_141 (fun h141 => ?_) (fun h141 => ?_)
      · refine w_iload i8_lastEntry_149 rfl ?_
        refine w_const i8_lastEntry_150 ?_
        refine w_iadd i8_lastEntry_151 (by omega) ?_
        refine w_iret i8_lastEntry_152 (Or.inl rfl) ⟨Nat.le_refl _, Nat.le_refl _⟩ ?_
        refine K _ ?_
        first
          | exact absurd (show (1 : Int) = 0 by assumption) (by decide)
          | exact absurd (rfl : (0 : Int) = 0) (by assumption)
          | exact Or.inl ⟨⟨by assumption, by assumption⟩, hab.mp (by assumption), rfl⟩
          | (refine Or.inr ⟨fun h => ?_, rfl⟩
             have := hab.mpr h.2
             omega)
          | (refine Or.inr ⟨fun h => ?_, rfl⟩
             omega)
      · refine w_iload i8_lastEntry_144 rfl ?_
        refine w_goto i8_lastEntry_146 ?_
        refine w_iret i8_lastEntry_152 (Or.inl rfl) ⟨Nat.le_refl _, Nat.le_refl _⟩ ?_
        refine K _ ?_
        first
          | exact absurd (show (1 : Int) = 0 by assumption) (by decide)
          | exact absurd (rfl : (0 : Int) = 0) (by assumption)
          | exact Or.inl ⟨⟨by assumption, by assumption⟩, hab.mp (by assumption), rfl⟩
          | (refine Or.inr ⟨fun h => ?_, rfl⟩
             have := hab.mpr h.2
             omega)
          | (refine Or.inr ⟨fun h => ?_, rfl⟩
             omega)
  · refine w_iload i8_lastEntry_108 rfl ?_
    refine w_aload i8_lastEntry_110 rfl ?_
    refine w_const i8_lastEntry_111 ?_
    refine w_iload i8_lastEntry_112 rfl ?_
    refine w_cVR i8_lastEntry_113 f8_at v8_at (r_at hM (by omega) (by omega)) rfl rfl (by decide) rfl rfl (Nat.le_of_ble_eq_true rfl) (by omega) ?_
    rw [e1]
    refine w_iload i8_lastEntry_116 rfl ?_
    refine w_imul i8_lastEntry_118 (by omega) ?_
    refine w_iadd i8_lastEntry_119 (by omega) ?_
    refine w_ifne i8_lastEntry_120 (fun h120 => ?_) (fun h120 => ?_)
    · refine w_const i8_lastEntry_127 ?_
      refine w_is8 i8_lastEntry_128 ?_
      refine w_iload i8_lastEntry_130 rfl ?_
      refine w_ifeq i8_lastEntry_132 (fun h132 => ?_) (fun h132 => ?_)
      · refine w_iload i8_lastEntry_149 rfl ?_
        refine w_const i8_lastEntry_150 ?_
        refine w_iadd i8_lastEntry_151 (by omega) ?_
        refine w_iret i8_lastEntry_152 (Or.inl rfl) ⟨Nat.le_refl _, Nat.le_refl _⟩ ?_
        refine K _ ?_
        first
          | exact absurd (show (1 : Int) = 0 by assumption) (by decide)
          | exact absurd (rfl : (0 : Int) = 0) (by assumption)
          | exact Or.inl ⟨⟨by assumption, by assumption⟩, hab.mp (by assumption), rfl⟩
          | (refine Or.inr ⟨fun h => ?_, rfl⟩
             have := hab.mpr h.2
             omega)
          | (refine Or.inr ⟨fun h => ?_, rfl⟩
             omega)
      · refine w_iload i8_lastEntry_135 rfl ?_
        refine w_cSR i8_lastEntry_137 f8_size v8_size (r_size (by omega)) rfl rfl (Nat.le_of_ble_eq_true rfl) (by omega) ?_
        refine w_iload i8_lastEntry_140 rfl ?_
        refine w_icmpgt i8_lastEntry_141 (fun h141 => ?_) (fun h141 => ?_)
        · refine w_iload i8_lastEntry_149 rfl ?_
          refine w_const i8_lastEntry_150 ?_
          refine w_iadd i8_lastEntry_151 (by omega) ?_
          refine w_iret i8_lastEntry_152 (Or.inl rfl) ⟨Nat.le_refl _, Nat.le_refl _⟩ ?_
          refine K _ ?_
          first
            | exact absurd (show (1 : Int) = 0 by assumption) (by decide)
            | exact absurd (rfl : (0 : Int) = 0) (by assumption)
            | exact Or.inl ⟨⟨by assumption, by assumption⟩, hab.mp (by assumption), rfl⟩
            | (refine Or.inr ⟨fun h => ?_, rfl⟩
               have := hab.mpr h.2
               omega)
            | (refine Or.inr ⟨fun h => ?_, rfl⟩
               omega)
        · refine w_iload i8_lastEntry_144 rfl ?_
          refine w_goto i8_lastEntry_146 ?_
          refine w_iret i8_lastEntry_152 (Or.inl rfl) ⟨Nat.le_refl _, Nat.le_refl _⟩ ?_
          refine K _ ?_
          first
            | exact absurd (show (1 : Int) = 0 by assumption) (by decide)
            | exact absurd (rfl : (0 : Int) = 0) (by assumption)
            | exact Or.inl ⟨⟨by assumption, by assumption⟩, hab.mp (by assumption), rfl⟩
            | (refine Or.inr ⟨fun h => ?_, rfl⟩
               have := hab.mpr h.2
               omega)
            | (refine Or.inr ⟨fun h => ?_, rfl⟩
               omega)
    · refine w_const i8_lastEntry_123 ?_
      refine w_goto i8_lastEntry_124 ?_
      refine w_is8 i8_lastEntry_128 ?_
      refine w_iload i8_lastEntry_130 rfl ?_
      refine w_ifeq i8_lastEntry_132 (fun h132 => ?_) (fun h132 => ?_)
      · refine w_iload i8_lastEntry_149 rfl ?_
        refine w_const i8_lastEntry_150 ?_
        refine w_iadd i8_lastEntry_151 (by omega) ?_
        refine w_iret i8_lastEntry_152 (Or.inl rfl) ⟨Nat.le_refl _, Nat.le_refl _⟩ ?_
        refine K _ ?_
        first
          | exact absurd (show (1 : Int) = 0 by assumption) (by decide)
          | exact absurd (rfl : (0 : Int) = 0) (by assumption)
          | exact Or.inl ⟨⟨by assumption, by assumption⟩, hab.mp (by assumption), rfl⟩
          | (refine Or.inr ⟨fun h => ?_, rfl⟩
             have := hab.mpr h.2
             omega)
          | (refine Or.inr ⟨fun h => ?_, rfl⟩
             omega)
      · refine w_iload i8_lastEntry_135 rfl ?_
        refine w_cSR i8_lastEntry_137 f8_size v8_size (r_size (by omega)) rfl rfl (Nat.le_of_ble_eq_true rfl) (by omega) ?_
        refine w_iload i8_lastEntry_140 rfl ?_
        refine w_icmpgt i8_lastEntry_141 (fun h141 => ?_) (fun h141 => ?_)
        · refine w_iload i8_lastEntry_149 rfl ?_
          refine w_const i8_lastEntry_150 ?_
          refine w_iadd i8_lastEntry_151 (by omega) ?_
          refine w_iret i8_lastEntry_152 (Or.inl rfl) ⟨Nat.le_refl _, Nat.le_refl _⟩ ?_
          refine K _ ?_
          first
            | exact absurd (show (1 : Int) = 0 by assumption) (by decide)
            | exact absurd (rfl : (0 : Int) = 0) (by assumption)
            | exact Or.inl ⟨⟨by assumption, by assumption⟩, hab.mp (by assumption), rfl⟩
            | (refine Or.inr ⟨fun h => ?_, rfl⟩
               have := hab.mpr h.2
               omega)
            | (refine Or.inr ⟨fun h => ?_, rfl⟩
               omega)
        · refine w_iload i8_lastEntry_144 rfl ?_
          refine w_goto i8_lastEntry_146 ?_
          refine w_iret i8_lastEntry_152 (Or.inl rfl) ⟨Nat.le_refl _, Nat.le_refl _⟩ ?_
          refine K _ ?_
          first
            | exact absurd (show (1 : Int) = 0 by assumption) (by decide)
            | exact absurd (rfl : (0 : Int) = 0) (by assumption)
            | exact Or.inl ⟨⟨by assumption, by assumption⟩, hab.mp (by assumption), rfl⟩
            | (refine Or.inr ⟨fun h => ?_, rfl⟩
               have := hab.mpr h.2
               omega)
            | (refine Or.inr ⟨fun h => ?_, rfl⟩
               omega)
theorem r_lastEntry {d : Nat} {I : IE} {F : FE} {M : Int → Int} {b n : Int} {l : Nat} (hd : 2 ≤ d) (hM : NM M F) (hn : F 1 1 = n) (hl : (l : Int) + 1 = n) (hl3 : l ≤ 3) (hb : 1 ≤ b ∧ b ≤ 18) (hz : ∀ j, 0 ≤ j ∧ j < (l : Int) → -18 ≤ F 6 j ∧ F 6 j ≤ 18) : MP m8_lastEntry d shM [rv 0, iv b] I F (LE M (F 6) n b l) := by
  have e0 : (0 : Int) * 4 + l = l := by omega
  have e1 : (1 : Int) * 4 + l = 4 + l := by omega
  have en : F 1 1 - 1 = (l : Int) := by omega
  have db : ∀ r, -162 ≤ dt M (F 6) r l ∧ dt M (F 6) r l ≤ 162 := fun r => by
    have key : ∀ k : Nat, (k : Int) ≤ l → -(54 * (k : Int)) ≤ dt M (F 6) r k ∧ dt M (F 6) r k ≤ 54 * (k : Int) := by
      intro k
      induction k with
      | zero => intro _; simp [dt]
      | succ k ih =>
        intro hk
        have h1 := ih (by omega)
        have h2 := mulb (hM.2 (r * 4 + k)) (B := 18) (hz k (by omega))
        simp only [dt]
        omega
    have := key l (Int.le_refl _)
    omega
  have d0 := db 0
  have d1 := db 1
  generalize hA : dt M (F 6) 0 l = A at d0
  generalize hB : dt M (F 6) 1 l = B at d1
  have kl : ∀ x, KerF M n (ups (F 6) l x) ↔ A + M l * x = 0 ∧ B + M (4 + l) * x = 0 := fun x => by rw [ker_last hl, hA, hB]
  have hp : ∀ r, 0 ≤ r ∧ r ≤ 1 → MR m8_product (d - 1) shM [rv 0, iv r, rv 6, iv 0, iv l] I F (dt M (F 6) r l) := fun r hr => r_product (v := F 6) (N := 4) (by omega) hM hr (by omega) (by decide) rfl (by omega) (fun j hj => ⟨by rw [Int.zero_add], by have := hz j hj; omega⟩)
  have m0 := hM.2 l
  have m1 := hM.2 (4 + l)
  by_cases c0 : M l = 0
  · by_cases c1 : M (4 + l) = 0
    · refine MS_of (ls := [lr 0, li b, lu, lu, lu, lu, lu, lu, lu]) f8_lastEntry rfl rfl (Nat.le_of_ble_eq_true rfl) ?_
      refine w_aload i8_lastEntry_0 rfl ?_
      refine w_getr i8_lastEntry_1 rfl rfl ?_
      refine w_const i8_lastEntry_4 ?_
      refine w_iald i8_lastEntry_5 rfl (by omega) ?_
      refine w_const i8_lastEntry_6 ?_
      refine w_isub i8_lastEntry_7 (by omega) ?_
      rw [en]
      refine w_is2 i8_lastEntry_8 ?_
      refine w_aload i8_lastEntry_9 rfl ?_
      refine w_const i8_lastEntry_10 ?_
      refine w_aload i8_lastEntry_11 rfl ?_
      refine w_getr i8_lastEntry_12 rfl rfl ?_
      refine w_const i8_lastEntry_15 ?_
      refine w_iload i8_lastEntry_16 rfl ?_
      refine w_cVR i8_lastEntry_17 f8_product v8_product (hp _ (by omega)) rfl rfl (by decide) rfl rfl (Nat.le_of_ble_eq_true rfl) (by omega) ?_
      rw [hA]
      refine w_is3 i8_lastEntry_20 ?_
      refine w_aload i8_lastEntry_21 rfl ?_
      refine w_const i8_lastEntry_22 ?_
      refine w_aload i8_lastEntry_23 rfl ?_
      refine w_getr i8_lastEntry_24 rfl rfl ?_
      refine w_const i8_lastEntry_27 ?_
      refine w_iload i8_lastEntry_28 rfl ?_
      refine w_cVR i8_lastEntry_29 f8_product v8_product (hp _ (by omega)) rfl rfl (by decide) rfl rfl (Nat.le_of_ble_eq_true rfl) (by omega) ?_
      rw [hB]
      refine w_is4 i8_lastEntry_32 ?_
      refine w_aload i8_lastEntry_34 rfl ?_
      refine w_const i8_lastEntry_35 ?_
      refine w_iload i8_lastEntry_36 rfl ?_
      refine w_cVR i8_lastEntry_37 f8_at v8_at (r_at hM (by omega) (by omega)) rfl rfl (by decide) rfl rfl (Nat.le_of_ble_eq_true rfl) (by omega) ?_
      rw [e0]
      refine w_ifeq i8_lastEntry_40 (fun h40 => ?_) (fun h_ => absurd h_ (by omega))
      refine w_aload i8_lastEntry_52 rfl ?_
      refine w_const i8_lastEntry_53 ?_
      refine w_iload i8_lastEntry_54 rfl ?_
      refine w_cVR i8_lastEntry_55 f8_at v8_at (r_at hM (by omega) (by omega)) rfl rfl (by decide) rfl rfl (Nat.le_of_ble_eq_true rfl) (by omega) ?_
      rw [e1]
      refine w_is5 i8_lastEntry_58 ?_
      refine w_aload i8_lastEntry_60 rfl ?_
      refine w_const i8_lastEntry_61 ?_
      refine w_iload i8_lastEntry_62 rfl ?_
      refine w_cVR i8_lastEntry_63 f8_at v8_at (r_at hM (by omega) (by omega)) rfl rfl (by decide) rfl rfl (Nat.le_of_ble_eq_true rfl) (by omega) ?_
      rw [e0]
      refine w_ifeq i8_lastEntry_66 (fun h66 => ?_) (fun h_ => absurd h_ (by omega))
      refine w_iload i8_lastEntry_73 rfl ?_
      refine w_is6 i8_lastEntry_75 ?_
      refine w_iload i8_lastEntry_77 rfl ?_
      refine w_ifne i8_lastEntry_79 (fun h_ => absurd h_ (by omega)) (fun h79 => ?_)
      refine w_const i8_lastEntry_82 ?_
      refine w_goto i8_lastEntry_83 ?_
      refine w_is7 i8_lastEntry_92 ?_
      refine lr_le94 (by omega) hM hl3 (by omega) (by omega) (by decide) hb (fun r hr => ⟨rfl, r, rfl, ?_, rfl, rfl⟩)
      rcases hr with ⟨h1, h2, h3⟩ | ⟨h1, h2⟩
      · exact Or.inl ⟨by omega, by rw [h3]; exact (kl 0).mpr h1, fun _ _ => h3⟩
      · refine Or.inr ⟨h2, fun x hx g => h1 ⟨?_, by omega, by omega⟩⟩
        have := (kl x).mp g
        rw [c0, c1, Int.zero_mul] at this
        rw [c0, c1, Int.mul_zero]
        exact this
    · have hV := tdiv_b (a := -B) (b := M (4 + l)) (B := 162) c1 (by omega)
      refine MS_of (ls := [lr 0, li b, lu, lu, lu, lu, lu, lu, lu]) f8_lastEntry rfl rfl (Nat.le_of_ble_eq_true rfl) ?_
      refine w_aload i8_lastEntry_0 rfl ?_
      refine w_getr i8_lastEntry_1 rfl rfl ?_
      refine w_const i8_lastEntry_4 ?_
      refine w_iald i8_lastEntry_5 rfl (by omega) ?_
      refine w_const i8_lastEntry_6 ?_
      refine w_isub i8_lastEntry_7 (by omega) ?_
      rw [en]
      refine w_is2 i8_lastEntry_8 ?_
      refine w_aload i8_lastEntry_9 rfl ?_
      refine w_const i8_lastEntry_10 ?_
      refine w_aload i8_lastEntry_11 rfl ?_
      refine w_getr i8_lastEntry_12 rfl rfl ?_
      refine w_const i8_lastEntry_15 ?_
      refine w_iload i8_lastEntry_16 rfl ?_
      refine w_cVR i8_lastEntry_17 f8_product v8_product (hp _ (by omega)) rfl rfl (by decide) rfl rfl (Nat.le_of_ble_eq_true rfl) (by omega) ?_
      rw [hA]
      refine w_is3 i8_lastEntry_20 ?_
      refine w_aload i8_lastEntry_21 rfl ?_
      refine w_const i8_lastEntry_22 ?_
      refine w_aload i8_lastEntry_23 rfl ?_
      refine w_getr i8_lastEntry_24 rfl rfl ?_
      refine w_const i8_lastEntry_27 ?_
      refine w_iload i8_lastEntry_28 rfl ?_
      refine w_cVR i8_lastEntry_29 f8_product v8_product (hp _ (by omega)) rfl rfl (by decide) rfl rfl (Nat.le_of_ble_eq_true rfl) (by omega) ?_
      rw [hB]
      refine w_is4 i8_lastEntry_32 ?_
      refine w_aload i8_lastEntry_34 rfl ?_
      refine w_const i8_lastEntry_35 ?_
      refine w_iload i8_lastEntry_36 rfl ?_
      refine w_cVR i8_lastEntry_37 f8_at v8_at (r_at hM (by omega) (by omega)) rfl rfl (by decide) rfl rfl (Nat.le_of_ble_eq_true rfl) (by omega) ?_
      rw [e0]
      refine w_ifeq i8_lastEntry_40 (fun h40 => ?_) (fun h_ => absurd h_ (by omega))
      refine w_aload i8_lastEntry_52 rfl ?_
      refine w_const i8_lastEntry_53 ?_
      refine w_iload i8_lastEntry_54 rfl ?_
      refine w_cVR i8_lastEntry_55 f8_at v8_at (r_at hM (by omega) (by omega)) rfl rfl (by decide) rfl rfl (Nat.le_of_ble_eq_true rfl) (by omega) ?_
      rw [e1]
      refine w_is5 i8_lastEntry_58 ?_
      refine w_aload i8_lastEntry_60 rfl ?_
      refine w_const i8_lastEntry_61 ?_
      refine w_iload i8_lastEntry_62 rfl ?_
      refine w_cVR i8_lastEntry_63 f8_at v8_at (r_at hM (by omega) (by omega)) rfl rfl (by decide) rfl rfl (Nat.le_of_ble_eq_true rfl) (by omega) ?_
      rw [e0]
      refine w_ifeq i8_lastEntry_66 (fun h66 => ?_) (fun h_ => absurd h_ (by omega))
      refine w_iload i8_lastEntry_73 rfl ?_
      refine w_is6 i8_lastEntry_75 ?_
      refine w_iload i8_lastEntry_77 rfl ?_
      refine w_ifne i8_lastEntry_79 (fun h79 => ?_) (fun h_ => absurd h_ (by omega))
      refine w_iload i8_lastEntry_86 rfl ?_
      refine w_ineg i8_lastEntry_88 (by omega) ?_
      refine w_iload i8_lastEntry_89 rfl ?_
      refine w_idiv i8_lastEntry_91 (by omega) ((by constructor <;> omega)) ?_
      refine w_is7 i8_lastEntry_92 ?_
      refine lr_le94 (by omega) hM hl3 (by omega) (by omega) (by omega) hb (fun r hr => ⟨rfl, r, rfl, ?_, rfl, rfl⟩)
      rcases hr with ⟨h1, h2, h3⟩ | ⟨h1, h2⟩
      · exact Or.inl ⟨by omega, by rw [h3]; exact (kl _).mpr h1, fun _ g => absurd g c1⟩
      · refine Or.inr ⟨h2, fun x hx g => h1 ?_⟩
        have k := (kl x).mp g
        have ev : (-B).tdiv (M (4 + l)) = x := by rw [show -B = M (4 + l) * x by omega]; exact Int.mul_tdiv_cancel_left _ c1
        rw [ev]
        exact ⟨k, hx⟩
  · have hV := tdiv_b (a := -A) (b := M l) (B := 162) c0 (by omega)
    refine MS_of (ls := [lr 0, li b, lu, lu, lu, lu, lu, lu, lu]) f8_lastEntry rfl rfl (Nat.le_of_ble_eq_true rfl) ?_
    refine w_aload i8_lastEntry_0 rfl ?_
    refine w_getr i8_lastEntry_1 rfl rfl ?_
    refine w_const i8_lastEntry_4 ?_
    refine w_iald i8_lastEntry_5 rfl (by omega) ?_
    refine w_const i8_lastEntry_6 ?_
    refine w_isub i8_lastEntry_7 (by omega) ?_
    rw [en]
    refine w_is2 i8_lastEntry_8 ?_
    refine w_aload i8_lastEntry_9 rfl ?_
    refine w_const i8_lastEntry_10 ?_
    refine w_aload i8_lastEntry_11 rfl ?_
    refine w_getr i8_lastEntry_12 rfl rfl ?_
    refine w_const i8_lastEntry_15 ?_
    refine w_iload i8_lastEntry_16 rfl ?_
    refine w_cVR i8_lastEntry_17 f8_product v8_product (hp _ (by omega)) rfl rfl (by decide) rfl rfl (Nat.le_of_ble_eq_true rfl) (by omega) ?_
    rw [hA]
    refine w_is3 i8_lastEntry_20 ?_
    refine w_aload i8_lastEntry_21 rfl ?_
    refine w_const i8_lastEntry_22 ?_
    refine w_aload i8_lastEntry_23 rfl ?_
    refine w_getr i8_lastEntry_24 rfl rfl ?_
    refine w_const i8_lastEntry_27 ?_
    refine w_iload i8_lastEntry_28 rfl ?_
    refine w_cVR i8_lastEntry_29 f8_product v8_product (hp _ (by omega)) rfl rfl (by decide) rfl rfl (Nat.le_of_ble_eq_true rfl) (by omega) ?_
    rw [hB]
    refine w_is4 i8_lastEntry_32 ?_
    refine w_aload i8_lastEntry_34 rfl ?_
    refine w_const i8_lastEntry_35 ?_
    refine w_iload i8_lastEntry_36 rfl ?_
    refine w_cVR i8_lastEntry_37 f8_at v8_at (r_at hM (by omega) (by omega)) rfl rfl (by decide) rfl rfl (Nat.le_of_ble_eq_true rfl) (by omega) ?_
    rw [e0]
    refine w_ifeq i8_lastEntry_40 (fun h_ => absurd h_ (by omega)) (fun h40 => ?_)
    refine w_aload i8_lastEntry_43 rfl ?_
    refine w_const i8_lastEntry_44 ?_
    refine w_iload i8_lastEntry_45 rfl ?_
    refine w_cVR i8_lastEntry_46 f8_at v8_at (r_at hM (by omega) (by omega)) rfl rfl (by decide) rfl rfl (Nat.le_of_ble_eq_true rfl) (by omega) ?_
    rw [e0]
    refine w_goto i8_lastEntry_49 ?_
    refine w_is5 i8_lastEntry_58 ?_
    refine w_aload i8_lastEntry_60 rfl ?_
    refine w_const i8_lastEntry_61 ?_
    refine w_iload i8_lastEntry_62 rfl ?_
    refine w_cVR i8_lastEntry_63 f8_at v8_at (r_at hM (by omega) (by omega)) rfl rfl (by decide) rfl rfl (Nat.le_of_ble_eq_true rfl) (by omega) ?_
    rw [e0]
    refine w_ifeq i8_lastEntry_66 (fun h_ => absurd h_ (by omega)) (fun h66 => ?_)
    refine w_iload i8_lastEntry_69 rfl ?_
    refine w_goto i8_lastEntry_70 ?_
    refine w_is6 i8_lastEntry_75 ?_
    refine w_iload i8_lastEntry_77 rfl ?_
    refine w_ifne i8_lastEntry_79 (fun h79 => ?_) (fun h_ => absurd h_ (by omega))
    refine w_iload i8_lastEntry_86 rfl ?_
    refine w_ineg i8_lastEntry_88 (by omega) ?_
    refine w_iload i8_lastEntry_89 rfl ?_
    refine w_idiv i8_lastEntry_91 (by omega) ((by constructor <;> omega)) ?_
    refine w_is7 i8_lastEntry_92 ?_
    refine lr_le94 (by omega) hM hl3 (by omega) (by omega) (by omega) hb (fun r hr => ⟨rfl, r, rfl, ?_, rfl, rfl⟩)
    rcases hr with ⟨h1, h2, h3⟩ | ⟨h1, h2⟩
    · exact Or.inl ⟨by omega, by rw [h3]; exact (kl _).mpr h1, fun g _ => absurd g c0⟩
    · refine Or.inr ⟨h2, fun x hx g => h1 ?_⟩
      have k := (kl x).mp g
      have ev : (-A).tdiv (M l) = x := by rw [show -A = M l * x by omega]; exact Int.mul_tdiv_cancel_left _ c0
      rw [ev]
      exact ⟨k, hx⟩
theorem lr_ak {d n0 : Nat} {Q : PQ} {I : IE} {F : FE} (hm : 0 ≤ I 0 8 ∧ I 0 8 < 800)
    (K : ∀ F', (∀ j, 0 ≤ j ∧ j < 4 → F' 5 (4 * I 0 8 + j) = F 6 j) → (∀ i, i < 4 * I 0 8 → F' 5 i = F 5 i) → (∀ a, a ≠ 5 → F' a = F a) → WS m8_addKernel d 0 0 n0 Q 0 0 42 [lr 0, li 4] [] shM I F') :
    ∀ (m k : Nat) (F' : FE), k + m = 4 → (∀ j, 0 ≤ j ∧ j < (k : Int) → F' 5 (4 * I 0 8 + j) = F 6 j) → (∀ i, i < 4 * I 0 8 → F' 5 i = F 5 i) → (∀ a, a ≠ 5 → F' a = F a) → WS m8_addKernel d 0 0 n0 Q 0 0 12 [lr 0, li k] [] shM I F' := by
  intro m
  induction m with
  | zero =>
    intro k F' hk h1 h2 h3
    obtain rfl : k = 4 := by omega
    refine w_iload i8_addKernel_12 rfl ?_
    refine w_const i8_addKernel_13 ?_
    refine w_icmpge i8_addKernel_14 (fun h14 => ?_) (fun h_ => absurd h_ (by omega))
    exact K F' h1 h2 h3
  | succ m ih =>
    intro k F' hk h1 h2 h3
    have e6 : F' 6 = F 6 := h3 6 (by decide)
    refine w_iload i8_addKernel_12 rfl ?_
    refine w_const i8_addKernel_13 ?_
    refine w_icmpge i8_addKernel_14 (fun h_ => absurd h_ (by omega)) (fun h14 => ?_)
    refine w_aload i8_addKernel_17 rfl ?_
    refine w_getr i8_addKernel_18 rfl rfl ?_
    refine w_const i8_addKernel_21 ?_
    refine w_aload i8_addKernel_22 rfl ?_
    refine w_get i8_addKernel_23 rfl rfl ?_
    refine w_imul i8_addKernel_26 (by omega) ?_
    refine w_iload i8_addKernel_27 rfl ?_
    refine w_iadd i8_addKernel_28 (by omega) ?_
    refine w_aload i8_addKernel_29 rfl ?_
    refine w_getr i8_addKernel_30 rfl rfl ?_
    refine w_iload i8_addKernel_33 rfl ?_
    refine w_iald i8_addKernel_34 rfl (by omega) ?_
    refine w_iast i8_addKernel_35 rfl (by omega) ?_
    refine w_ii1 i8_addKernel_36 (by omega) ?_
    refine w_goto i8_addKernel_39 ?_
    refine ih (k + 1) _ (by omega) (fun j hj => ?_) (fun i hi => ?_) (fun a ha => ?_)
    · simp only [upF, true_and]
      by_cases c : j = k
      · rw [if_pos (by omega), c, e6]
      · rw [if_neg (by omega)]; exact h1 j (by omega)
    · simp only [upF, true_and]
      rw [if_neg (by omega)]; exact h2 i hi
    · funext i
      simp only [upF, ha, false_and, if_false]
      rw [h3 a ha]
theorem r_addKernel {d : Nat} {I : IE} {F : FE} (hm : 0 ≤ I 0 8 ∧ I 0 8 < 800) : MU m8_addKernel d shM [rv 0] I F (fun I' F' => I' = upI I 0 8 (I 0 8 + 1) ∧ (∀ j, 0 ≤ j ∧ j < 4 → F' 5 (4 * I 0 8 + j) = F 6 j) ∧ (∀ i, i < 4 * I 0 8 → F' 5 i = F 5 i) ∧ (∀ a, a ≠ 5 → F' a = F a)) := by
  refine MS_of (ls := [lr 0, lu]) f8_addKernel rfl rfl (Nat.le_of_ble_eq_true rfl) ?_
  refine w_aload i8_addKernel_0 rfl ?_
  refine w_get i8_addKernel_1 rfl rfl ?_
  refine w_const i8_addKernel_4 ?_
  refine w_icmpge i8_addKernel_7 (fun h_ => absurd h_ (by omega)) (fun h7 => ?_)
  refine w_const i8_addKernel_10 ?_
  refine w_is1 i8_addKernel_11 ?_
  refine lr_ak hm (fun F' h1 h2 h3 => ?_) 4 0 F (by omega) (fun j hj => absurd hj (by omega)) (fun _ _ => rfl) (fun _ _ => rfl)
  refine w_aload i8_addKernel_42 rfl ?_
  refine w_dup i8_addKernel_43 ?_
  refine w_get i8_addKernel_44 rfl rfl ?_
  refine w_const i8_addKernel_47 ?_
  refine w_iadd i8_addKernel_48 (by omega) ?_
  refine w_put i8_addKernel_49 rfl rfl (Or.inl rfl) ?_
  refine w_vret i8_addKernel_52 rfl ⟨Nat.le_refl _, Nat.le_refl _⟩ ?_
  exact ⟨rfl, rfl, rfl, h1, h2, h3⟩
