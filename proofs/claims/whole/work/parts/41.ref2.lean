/-- the places (x, y) ahead of (a, b) -/
def pcd (a b x y : Int) : Prop := (0 ≤ x ∧ x ≤ 3) ∧ (0 ≤ y ∧ y ≤ 3) ∧ (x < a ∨ x = a ∧ y < b)
def RkI (M : Int → Int) (a b r : Int) : Prop := (r = 2 ∧ ∃ x y, (0 ≤ x ∧ x ≤ 3) ∧ (0 ≤ y ∧ y ≤ 3) ∧ mnr M x y ≠ 0) ∨ (r = 1 ∧ (∃ x, (0 ≤ x ∧ x ≤ 3) ∧ ¬ (M x = 0 ∧ M (4 + x) = 0)) ∧ ∀ x y, pcd a b x y → mnr M x y = 0) ∨ (r = 0 ∧ ∀ x y, pcd a b x y → mnr M x y = 0 ∧ M x = 0 ∧ M (4 + x) = 0)
theorem RkI.st {M : Int → Int} {a b r r' : Int} (h : RkI M a b r) (ha : 0 ≤ a ∧ a ≤ 3) (hb : 0 ≤ b ∧ b ≤ 3) (h2 : mnr M a b ≠ 0 → r' = 2) (h1 : mnr M a b = 0 → ¬ (M a = 0 ∧ M (4 + a) = 0) → r' = if 1 > r then 1 else r) (h0 : mnr M a b = 0 → (M a = 0 ∧ M (4 + a) = 0) → r' = r) : RkI M a (b + 1) r' := by
  have pc : ∀ x y, pcd a (b + 1) x y → pcd a b x y ∨ (x = a ∧ y = b) := fun x y g => by unfold pcd at *; omega
  have r012 : r = 2 ∨ r = 1 ∨ r = 0 := by rcases h with h | h | h <;> omega
  by_cases c : mnr M a b = 0
  · by_cases z : M a = 0 ∧ M (4 + a) = 0
    · have e := h0 c z
      subst e
      rcases h with h | ⟨g1, g2, g3⟩ | ⟨g1, g2⟩
      · exact Or.inl h
      · exact Or.inr (Or.inl ⟨g1, g2, fun x y hp => by
          rcases pc x y hp with hp | ⟨rfl, rfl⟩
          · exact g3 x y hp
          · exact c⟩)
      · exact Or.inr (Or.inr ⟨g1, fun x y hp => by
          rcases pc x y hp with hp | ⟨rfl, rfl⟩
          · exact g2 x y hp
          · exact ⟨c, z⟩⟩)
    · have e := h1 c z
      rcases h with ⟨g1, g2⟩ | ⟨g1, g2, g3⟩ | ⟨g1, g2⟩
      · exact Or.inl ⟨by rw [e, if_neg (by omega)]; exact g1, g2⟩
      · exact Or.inr (Or.inl ⟨by rw [e, if_neg (by omega)]; exact g1, g2, fun x y hp => by
          rcases pc x y hp with hp | ⟨rfl, rfl⟩
          · exact g3 x y hp
          · exact c⟩)
      · exact Or.inr (Or.inl ⟨by rw [e, if_pos (by omega)], ⟨a, ha, z⟩, fun x y hp => by
          rcases pc x y hp with hp | ⟨rfl, rfl⟩
          · exact (g2 x y hp).1
          · exact c⟩)
  · exact Or.inl ⟨h2 c, a, b, ha, hb, c⟩
theorem RkI.b {M : Int → Int} {a b r : Int} (h : RkI M a b r) : 0 ≤ r ∧ r ≤ 2 := by rcases h with h | h | h <;> omega
theorem lr_rk1 {d n0 : Nat} {Q : PQ} {I : IE} {F : FE} {M : Int → Int} {a : Int} (hd : 1 ≤ d) (hM : NM M F) (ha : 0 ≤ a ∧ a ≤ 3) (K : ∀ r x y z, RkI M (a + 1) 0 r → WS m8_rankOf d 0 0 n0 Q 0 0 102 [lr 0, li r, li a, x, y, z] [] shM I F) :
    ∀ (m k : Nat) (r : Int) (x y : Option AV), k + m = 4 → RkI M a k r → WS m8_rankOf d 0 0 n0 Q 0 0 11 [lr 0, li r, li a, li k, x, y] [] shM I F := by
  have e0 : ∀ x : Int, (0 : Int) * 4 + x = x := fun x => by omega
  have e1 : ∀ x : Int, (1 : Int) * 4 + x = 4 + x := fun x => by omega
  intro m
  induction m with
  | zero =>
    intro k r x y hk hP
    obtain rfl : k = 4 := by omega
    refine w_iload i8_rankOf_11 rfl ?_
    refine w_const i8_rankOf_12 ?_
    refine w_icmpge i8_rankOf_13 (fun h13 => ?_) (fun h_ => absurd h_ (by omega))
    refine K r _ _ _ ?_
    have pc : ∀ x y, pcd (a + 1) 0 x y → pcd a ((4 : Nat) : Int) x y := fun x y g => by unfold pcd at *; omega
    rcases hP with h | ⟨g1, g2, g3⟩ | ⟨g1, g2⟩
    · exact Or.inl h
    · exact Or.inr (Or.inl ⟨g1, g2, fun x y hp => g3 x y (pc x y hp)⟩)
    · exact Or.inr (Or.inr ⟨g1, fun x y hp => g2 x y (pc x y hp)⟩)
  | succ m ih =>
    intro k r x y hk hP
    have hk3 : 0 ≤ (k : Int) ∧ (k : Int) ≤ 3 := by omega
    have rb := hP.b
    have m1 := mulb (hM.2 a) (b := M (4 + k)) (B := 3) (by have := hM.2 (4 + k); omega)
    have m2 := mulb (hM.2 (4 + a)) (b := M k) (B := 3) (by have := hM.2 k; omega)
    have cm : M k * M (4 + a) = M (4 + a) * M k := Int.mul_comm _ _
    have em : M a * M (4 + k) - M k * M (4 + a) = mnr M a k := by unfold mnr; rw [cm]
    have mb : -18 ≤ mnr M a k ∧ mnr M a k ≤ 18 := by rw [← em, cm]; constructor <;> omega
    have key := fun r' => RkI.st (r' := r') hP ha hk3
    have ek : ((k + 1 : Nat) : Int) = (k : Int) + 1 := by omega
    have ih' : ∀ (r' : Int) (x y : Option AV), (mnr M a k ≠ 0 → r' = 2) → (mnr M a k = 0 → ¬ (M a = 0 ∧ M (4 + a) = 0) → r' = if 1 > r then 1 else r) → (mnr M a k = 0 → (M a = 0 ∧ M (4 + a) = 0) → r' = r) → WS m8_rankOf d 0 0 n0 Q 0 0 11 [lr 0, li r', li a, li ((k : Int) + 1), x, y] [] shM I F := fun r' x y h2 h1 h0 => by
      rw [← ek]
      exact ih (k + 1) r' x y (by omega) (by rw [ek]; exact key r' h2 h1 h0)
    refine w_iload i8_rankOf_11 rfl ?_
    refine w_const i8_rankOf_12 ?_
    refine w_icmpge i8_rankOf_13 (fun h_ => absurd h_ (by omega)) (fun h13 => ?_)
    refine w_aload i8_rankOf_16 rfl ?_
    refine w_const i8_rankOf_17 ?_
    refine w_iload i8_rankOf_18 rfl ?_
    refine w_cVR i8_rankOf_19 f8_at v8_at (r_at hM (by omega) (by omega)) rfl rfl (by decide) rfl rfl (Nat.le_of_ble_eq_true rfl) (by omega) ?_
    rw [e0]
    refine w_aload i8_rankOf_22 rfl ?_
    refine w_const i8_rankOf_23 ?_
    refine w_iload i8_rankOf_24 rfl ?_
    refine w_cVR i8_rankOf_25 f8_at v8_at (r_at hM (by omega) (by omega)) rfl rfl (by decide) rfl rfl (Nat.le_of_ble_eq_true rfl) (by omega) ?_
    rw [e1]
    refine w_imul i8_rankOf_28 (by omega) ?_
    refine w_aload i8_rankOf_29 rfl ?_
    refine w_const i8_rankOf_30 ?_
    refine w_iload i8_rankOf_31 rfl ?_
    refine w_cVR i8_rankOf_32 f8_at v8_at (r_at hM (by omega) (by omega)) rfl rfl (by decide) rfl rfl (Nat.le_of_ble_eq_true rfl) (by omega) ?_
    rw [e0]
    refine w_aload i8_rankOf_35 rfl ?_
    refine w_const i8_rankOf_36 ?_
    refine w_iload i8_rankOf_37 rfl ?_
    refine w_cVR i8_rankOf_38 f8_at v8_at (r_at hM (by omega) (by omega)) rfl rfl (by decide) rfl rfl (Nat.le_of_ble_eq_true rfl) (by omega) ?_
    rw [e1]
    refine w_imul i8_rankOf_41 ((by rw [cm]; constructor <;> omega)) ?_
    refine w_isub i8_rankOf_42 ((by rw [cm]; constructor <;> omega)) ?_
    rw [em]
    refine w_is4 i8_rankOf_43 ?_
    refine w_aload i8_rankOf_45 rfl ?_
    refine w_const i8_rankOf_46 ?_
    refine w_iload i8_rankOf_47 rfl ?_
    refine w_cVR i8_rankOf_48 f8_at v8_at (r_at hM (by omega) (by omega)) rfl rfl (by decide) rfl rfl (Nat.le_of_ble_eq_true rfl) (by omega) ?_
    rw [e0]
    refine w_ifne i8_rankOf_51 (fun h51 => ?_) (fun h51 => ?_)
    · refine w_const i8_rankOf_63 ?_
      refine w_goto i8_rankOf_64 ?_
      refine w_is5 i8_rankOf_68 ?_
      refine w_iload i8_rankOf_70 rfl ?_
      refine w_ifeq i8_rankOf_72 (fun h72 => ?_) (fun h72 => ?_)
      · refine w_iload i8_rankOf_79 rfl ?_
        refine w_is5 i8_rankOf_81 ?_
        refine w_iload i8_rankOf_83 rfl ?_
        refine w_iload i8_rankOf_85 rfl ?_
        refine w_icmple i8_rankOf_86 (fun h86 => ?_) (fun h86 => ?_)
        · refine w_iload i8_rankOf_94 rfl ?_
          refine w_is1 i8_rankOf_95 ?_
          refine w_ii3 i8_rankOf_96 (by omega) ?_
          refine w_goto i8_rankOf_99 ?_
          refine ih' _ _ _ (fun _ => ?_) (fun _ _ => ?_) (fun _ _ => ?_) <;> omega
        · refine w_iload i8_rankOf_89 rfl ?_
          refine w_goto i8_rankOf_91 ?_
          refine w_is1 i8_rankOf_95 ?_
          refine w_ii3 i8_rankOf_96 (by omega) ?_
          refine w_goto i8_rankOf_99 ?_
          refine ih' _ _ _ (fun _ => ?_) (fun _ _ => ?_) (fun _ _ => ?_) <;> omega
      · refine w_const i8_rankOf_75 ?_
        refine w_goto i8_rankOf_76 ?_
        refine w_is5 i8_rankOf_81 ?_
        refine w_iload i8_rankOf_83 rfl ?_
        refine w_iload i8_rankOf_85 rfl ?_
        refine w_icmple i8_rankOf_86 (fun h86 => ?_) (fun h86 => ?_)
        · refine w_iload i8_rankOf_94 rfl ?_
          refine w_is1 i8_rankOf_95 ?_
          refine w_ii3 i8_rankOf_96 (by omega) ?_
          refine w_goto i8_rankOf_99 ?_
          refine ih' _ _ _ (fun _ => ?_) (fun _ _ => ?_) (fun _ _ => ?_) <;> omega
        · refine w_iload i8_rankOf_89 rfl ?_
          refine w_goto i8_rankOf_91 ?_
          refine w_is1 i8_rankOf_95 ?_
          refine w_ii3 i8_rankOf_96 (by omega) ?_
          refine w_goto i8_rankOf_99 ?_
          refine ih' _ _ _ (fun _ => ?_) (fun _ _ => ?_) (fun _ _ => ?_) <;> omega
    · refine w_aload i8_rankOf_54 rfl ?_
      refine w_const i8_rankOf_55 ?_
      refine w_iload i8_rankOf_56 rfl ?_
      refine w_cVR i8_rankOf_57 f8_at v8_at (r_at hM (by omega) (by omega)) rfl rfl (by decide) rfl rfl (Nat.le_of_ble_eq_true rfl) (by omega) ?_
      rw [e1]
      refine w_ifeq i8_rankOf_60 (fun h60 => ?_) (fun h60 => ?_)
      · refine w_const i8_rankOf_67 ?_
        refine w_is5 i8_rankOf_68 ?_
        refine w_iload i8_rankOf_70 rfl ?_
        refine w_ifeq i8_rankOf_72 (fun h72 => ?_) (fun h72 => ?_)
        · refine w_iload i8_rankOf_79 rfl ?_
          refine w_is5 i8_rankOf_81 ?_
          refine w_iload i8_rankOf_83 rfl ?_
          refine w_iload i8_rankOf_85 rfl ?_
          refine w_icmple i8_rankOf_86 (fun h86 => ?_) (fun h86 => ?_)
          · refine w_iload i8_rankOf_94 rfl ?_
            refine w_is1 i8_rankOf_95 ?_
            refine w_ii3 i8_rankOf_96 (by omega) ?_
            refine w_goto i8_rankOf_99 ?_
            refine ih' _ _ _ (fun _ => ?_) (fun _ _ => ?_) (fun _ _ => ?_) <;> omega
          · refine w_iload i8_rankOf_89 rfl ?_
            refine w_goto i8_rankOf_91 ?_
            refine w_is1 i8_rankOf_95 ?_
            refine w_ii3 i8_rankOf_96 (by omega) ?_
            refine w_goto i8_rankOf_99 ?_
            refine ih' _ _ _ (fun _ => ?_) (fun _ _ => ?_) (fun _ _ => ?_) <;> omega
        · refine w_const i8_rankOf_75 ?_
          refine w_goto i8_rankOf_76 ?_
          refine w_is5 i8_rankOf_81 ?_
          refine w_iload i8_rankOf_83 rfl ?_
          refine w_iload i8_rankOf_85 rfl ?_
          refine w_icmple i8_rankOf_86 (fun h86 => ?_) (fun h86 => ?_)
          · refine w_iload i8_rankOf_94 rfl ?_
            refine w_is1 i8_rankOf_95 ?_
            refine w_ii3 i8_rankOf_96 (by omega) ?_
            refine w_goto i8_rankOf_99 ?_
            refine ih' _ _ _ (fun _ => ?_) (fun _ _ => ?_) (fun _ _ => ?_) <;> omega
          · refine w_iload i8_rankOf_89 rfl ?_
            refine w_goto i8_rankOf_91 ?_
            refine w_is1 i8_rankOf_95 ?_
            refine w_ii3 i8_rankOf_96 (by omega) ?_
            refine w_goto i8_rankOf_99 ?_
            refine ih' _ _ _ (fun _ => ?_) (fun _ _ => ?_) (fun _ _ => ?_) <;> omega
      · refine w_const i8_rankOf_63 ?_
        refine w_goto i8_rankOf_64 ?_
        refine w_is5 i8_rankOf_68 ?_
        refine w_iload i8_rankOf_70 rfl ?_
        refine w_ifeq i8_rankOf_72 (fun h72 => ?_) (fun h72 => ?_)
        · refine w_iload i8_rankOf_79 rfl ?_
          refine w_is5 i8_rankOf_81 ?_
          refine w_iload i8_rankOf_83 rfl ?_
          refine w_iload i8_rankOf_85 rfl ?_
          refine w_icmple i8_rankOf_86 (fun h86 => ?_) (fun h86 => ?_)
          · refine w_iload i8_rankOf_94 rfl ?_
            refine w_is1 i8_rankOf_95 ?_
            refine w_ii3 i8_rankOf_96 (by omega) ?_
            refine w_goto i8_rankOf_99 ?_
            refine ih' _ _ _ (fun _ => ?_) (fun _ _ => ?_) (fun _ _ => ?_) <;> omega
          · refine w_iload i8_rankOf_89 rfl ?_
            refine w_goto i8_rankOf_91 ?_
            refine w_is1 i8_rankOf_95 ?_
            refine w_ii3 i8_rankOf_96 (by omega) ?_
            refine w_goto i8_rankOf_99 ?_
            refine ih' _ _ _ (fun _ => ?_) (fun _ _ => ?_) (fun _ _ => ?_) <;> omega
        · refine w_const i8_rankOf_75 ?_
          refine w_goto i8_rankOf_76 ?_
          refine w_is5 i8_rankOf_81 ?_
          refine w_iload i8_rankOf_83 rfl ?_
          refine w_iload i8_rankOf_85 rfl ?_
          refine w_icmple i8_rankOf_86 (fun h86 => ?_) (fun h86 => ?_)
          · refine w_iload i8_rankOf_94 rfl ?_
            refine w_is1 i8_rankOf_95 ?_
            refine w_ii3 i8_rankOf_96 (by omega) ?_
            refine w_goto i8_rankOf_99 ?_
            refine ih' _ _ _ (fun _ => ?_) (fun _ _ => ?_) (fun _ _ => ?_) <;> omega
          · refine w_iload i8_rankOf_89 rfl ?_
            refine w_goto i8_rankOf_91 ?_
            refine w_is1 i8_rankOf_95 ?_
            refine w_ii3 i8_rankOf_96 (by omega) ?_
            refine w_goto i8_rankOf_99 ?_
            refine ih' _ _ _ (fun _ => ?_) (fun _ _ => ?_) (fun _ _ => ?_) <;> omega
theorem lr_rk2 {d n0 : Nat} {Q : PQ} {I : IE} {F : FE} {M : Int → Int} (hd : 1 ≤ d) (hM : NM M F) (K : ∀ r w x y z, RkI M 4 0 r → WS m8_rankOf d 0 0 n0 Q 0 0 108 [lr 0, li r, w, x, y, z] [] shM I F) :
    ∀ (m k : Nat) (r : Int) (w x y : Option AV), k + m = 4 → RkI M k 0 r → WS m8_rankOf d 0 0 n0 Q 0 0 4 [lr 0, li r, li k, w, x, y] [] shM I F := by
  intro m
  induction m with
  | zero =>
    intro k r w x y hk hP
    obtain rfl : k = 4 := by omega
    refine w_iload i8_rankOf_4 rfl ?_
    refine w_const i8_rankOf_5 ?_
    refine w_icmpge i8_rankOf_6 (fun h6 => ?_) (fun h_ => absurd h_ (by omega))
    exact K r _ _ _ _ hP
  | succ m ih =>
    intro k r w x y hk hP
    refine w_iload i8_rankOf_4 rfl ?_
    refine w_const i8_rankOf_5 ?_
    refine w_icmpge i8_rankOf_6 (fun h_ => absurd h_ (by omega)) (fun h6 => ?_)
    refine w_const i8_rankOf_9 ?_
    refine w_is3 i8_rankOf_10 ?_
    refine lr_rk1 hd hM (a := k) (by omega) (fun r' x y z h => ?_) 4 0 r _ _ (by omega) hP
    have ek : ((k + 1 : Nat) : Int) = (k : Int) + 1 := by omega
    refine w_ii2 i8_rankOf_102 (by omega) ?_
    refine w_goto i8_rankOf_105 ?_
    exact ih (k + 1) r' _ _ _ (by omega) (by rw [ek]; exact h)
theorem RkI.r {M : Int → Int} {n r : Int} (h : RkI M 4 0 r) (hn : 0 ≤ n ∧ n ≤ 4) (hz : ∀ j, n ≤ j ∧ j < 4 → M j = 0 ∧ M (4 + j) = 0) : ∃ b, PVr M n r b := by
  have out : ∀ x y, n ≤ x ∧ x ≤ 3 → mnr M x y = 0 := fun x y hx => by
    have := hz x (by omega)
    unfold mnr
    rw [this.1, this.2]; omega
  have out2 : ∀ x y, n ≤ y ∧ y ≤ 3 → mnr M x y = 0 := fun x y hy => by
    have := hz y (by omega)
    unfold mnr
    rw [this.1, this.2]; omega
  have sy : ∀ x y, mnr M y x = -mnr M x y := fun x y => by unfold mnr; rw [Int.mul_comm (M y), Int.mul_comm (M (4 + y))]; omega
  rcases h with ⟨g1, x, y, hx, hy, hne⟩ | ⟨g1, ⟨x, hx, hne⟩, g3⟩ | ⟨g1, g2⟩
  · refine ⟨9, Or.inr (Or.inr ⟨g1, rfl, ?_⟩)⟩
    have hxn : x < n := Classical.byContradiction fun c => hne (out x y (by omega))
    have hyn : y < n := Classical.byContradiction fun c => hne (out2 x y (by omega))
    rcases Int.lt_trichotomy x y with e | e | e
    · exact ⟨x, y, hx.1, e, hyn, hne⟩
    · exact absurd (by subst e; unfold mnr; rw [Int.mul_comm (M x)]; omega) hne
    · exact ⟨y, x, hy.1, e, hxn, by rw [sy]; omega⟩
  · refine ⟨3, Or.inr (Or.inl ⟨g1, rfl, ?_, fun p q hp => g3 p q ⟨by omega, by omega, by omega⟩⟩)⟩
    have hxn : x < n := Classical.byContradiction fun c => hne (hz x (by omega))
    by_cases z : M x = 0
    · refine ⟨1, x, by decide, by decide, hx.1, hxn, ?_⟩
      rw [show 1 * 4 + x = 4 + x by omega]
      exact fun z2 => hne ⟨z, z2⟩
    · refine ⟨0, x, by decide, by decide, hx.1, hxn, ?_⟩
      rw [show 0 * 4 + x = x by omega]
      exact z
  · exact ⟨1, Or.inl ⟨g1, rfl, fun c hc => (g2 c 0 ⟨by omega, by omega, by omega⟩).2⟩⟩
theorem r_rankOf {d : Nat} {I : IE} {F : FE} {M : Int → Int} {n : Int} (hd : 1 ≤ d) (hM : NM M F) (hn : 0 ≤ n ∧ n ≤ 4) (hz : ∀ j, n ≤ j ∧ j < 4 → M j = 0 ∧ M (4 + j) = 0) : MP m8_rankOf d shM [rv 0] I F (fun r => ∃ b, PVr M n r b) := by
  refine MS_of (ls := [lr 0, lu, lu, lu, lu, lu]) f8_rankOf rfl rfl (Nat.le_of_ble_eq_true rfl) ?_
  refine w_const i8_rankOf_0 ?_
  refine w_is1 i8_rankOf_1 ?_
  refine w_const i8_rankOf_2 ?_
  refine w_is2 i8_rankOf_3 ?_
  refine lr_rk2 hd hM (fun r w x y z h => ?_) 4 0 0 _ _ _ (by omega) (Or.inr (Or.inr ⟨rfl, fun x y hp => by unfold pcd at hp; omega⟩))
  refine w_iload i8_rankOf_108 rfl ?_
  refine w_iret i8_rankOf_109 (Or.inl rfl) ⟨Nat.le_refl _, Nat.le_refl _⟩ ?_
  exact ⟨rfl, _, rfl, h.r hn hz, rfl, rfl⟩
theorem lr_ifp {d n0 : Nat} {Q : PQ} {I : IE} {F : FE} {n : Int} (hn : F 1 1 = n) (h4 : 0 ≤ n ∧ n ≤ 4)
    (K : ∀ v, tf (lead (F 6) n) v → WS m8_isFirstPositive d 0 0 n0 Q 0 0 51 [lr 0, lu] [.inl v] shM I F) (K' : ∀ v x, tf (lead (F 6) n) v → WS m8_isFirstPositive d 0 0 n0 Q 0 0 51 [lr 0, x] [.inl v] shM I F) :
    ∀ (m k : Nat), (k + m : Int) = n → (∀ i, 0 ≤ i ∧ i < (k : Int) → F 6 i = 0) → WS m8_isFirstPositive d 0 0 n0 Q 0 0 2 [lr 0, li k] [] shM I F := by
  intro m
  induction m with
  | zero =>
    intro k hk hP
    have ek : (k : Int) = n := by omega
    rw [ek] at hP ⊢
    refine w_iload i8_isFirstPositive_2 rfl ?_
    refine w_aload i8_isFirstPositive_3 rfl ?_
    refine w_getr i8_isFirstPositive_4 rfl rfl ?_
    refine w_const i8_isFirstPositive_7 ?_
    refine w_iald i8_isFirstPositive_8 rfl (by omega) ?_
    refine w_icmpge i8_isFirstPositive_9 (fun h9 => ?_) (fun h_ => absurd h_ (by omega))
    refine w_iload i8_isFirstPositive_27 rfl ?_
    refine w_aload i8_isFirstPositive_28 rfl ?_
    refine w_getr i8_isFirstPositive_29 rfl rfl ?_
    refine w_const i8_isFirstPositive_32 ?_
    refine w_iald i8_isFirstPositive_33 rfl (by omega) ?_
    refine w_icmpge i8_isFirstPositive_34 (fun h34 => ?_) (fun h_ => absurd h_ (by omega))
    refine w_const i8_isFirstPositive_50 ?_
    refine K' _ _ (Or.inr ⟨rfl, fun ⟨q, h1, h2, h3, h4⟩ => ?_⟩)
    have := hP q ⟨h1, h2⟩
    omega
  | succ m ih =>
    intro k hk hP
    refine w_iload i8_isFirstPositive_2 rfl ?_
    refine w_aload i8_isFirstPositive_3 rfl ?_
    refine w_getr i8_isFirstPositive_4 rfl rfl ?_
    refine w_const i8_isFirstPositive_7 ?_
    refine w_iald i8_isFirstPositive_8 rfl (by omega) ?_
    refine w_icmpge i8_isFirstPositive_9 (fun h_ => absurd h_ (by omega)) (fun h9 => ?_)
    refine w_aload i8_isFirstPositive_12 rfl ?_
    refine w_getr i8_isFirstPositive_13 rfl rfl ?_
    refine w_iload i8_isFirstPositive_16 rfl ?_
    refine w_iald i8_isFirstPositive_17 rfl (by omega) ?_
    refine w_ifne i8_isFirstPositive_18 (fun h18 => ?_) (fun h18 => ?_)
    · refine w_iload i8_isFirstPositive_27 rfl ?_
      refine w_aload i8_isFirstPositive_28 rfl ?_
      refine w_getr i8_isFirstPositive_29 rfl rfl ?_
      refine w_const i8_isFirstPositive_32 ?_
      refine w_iald i8_isFirstPositive_33 rfl (by omega) ?_
      refine w_icmpge i8_isFirstPositive_34 (fun h_ => absurd h_ (by omega)) (fun h34 => ?_)
      refine w_aload i8_isFirstPositive_37 rfl ?_
      refine w_getr i8_isFirstPositive_38 rfl rfl ?_
      refine w_iload i8_isFirstPositive_41 rfl ?_
      refine w_iald i8_isFirstPositive_42 rfl (by omega) ?_
      refine w_ifle i8_isFirstPositive_43 (fun h43 => ?_) (fun h43 => ?_)
      · refine w_const i8_isFirstPositive_50 ?_
        first
        | exact K' 1 _ (Or.inl ⟨rfl, k, by omega, by omega, hP, by omega⟩)
        | (refine K' 0 _ (Or.inr ⟨rfl, fun ⟨q, h1, h2, h3, h4⟩ => ?_⟩)
           rcases Int.lt_trichotomy q k with h | h | h
           · have := hP q ⟨h1, h⟩; omega
           · subst h; omega
           · exact absurd (h3 k (by omega)) (by omega))
      · refine w_const i8_isFirstPositive_46 ?_
        refine w_goto i8_isFirstPositive_47 ?_
        first
        | exact K' 1 _ (Or.inl ⟨rfl, k, by omega, by omega, hP, by omega⟩)
        | (refine K' 0 _ (Or.inr ⟨rfl, fun ⟨q, h1, h2, h3, h4⟩ => ?_⟩)
           rcases Int.lt_trichotomy q k with h | h | h
           · have := hP q ⟨h1, h⟩; omega
           · subst h; omega
           · exact absurd (h3 k (by omega)) (by omega))
    · refine w_ii1 i8_isFirstPositive_21 (by omega) ?_
      refine w_goto i8_isFirstPositive_24 ?_
      refine ih (k + 1) (by omega) (fun i hi => ?_)
      by_cases hik : i = k
      · subst hik; omega
      · exact hP i (by omega)
theorem r_isFirstPositive {d : Nat} {I : IE} {F : FE} {n : Int} (hn : F 1 1 = n) (h4 : 0 ≤ n ∧ n ≤ 4) : MP m8_isFirstPositive d shM [rv 0] I F (tf (lead (F 6) n)) := by
  have K : ∀ v x, tf (lead (F 6) n) v → WS m8_isFirstPositive d 0 0 shM.length (fun r sh' I' F' => sh' = shM ∧ ∃ v, r = some (.inl v) ∧ tf (lead (F 6) n) v ∧ I' = I ∧ F' = F) 0 0 51 [lr 0, x] [.inl v] shM I F := fun v x hv => by
    refine w_iret i8_isFirstPositive_51 (Or.inr ⟨rfl, by rcases hv with h | h <;> omega⟩) ⟨Nat.le_refl _, Nat.le_refl _⟩ ?_
    exact ⟨rfl, _, rfl, hv, rfl, rfl⟩
  refine MS_of (ls := [lr 0, lu]) f8_isFirstPositive rfl rfl (Nat.le_of_ble_eq_true rfl) ?_
  refine w_const i8_isFirstPositive_0 ?_
  refine w_is1 i8_isFirstPositive_1 ?_
  exact lr_ifp hn h4 (fun v hv => K v _ hv) K n.toNat 0 (by omega) (fun i hi => absurd hi (by omega))
