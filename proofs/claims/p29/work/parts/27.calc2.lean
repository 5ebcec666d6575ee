/-- facts of numbers, proved later: no matrix has more elements, no fiber more vectors, than the rooms hold -/
def CapB : Prop := ∀ (M : Int → Int) (n : Int), (2 ≤ n ∧ n ≤ 4) → (∀ j, 0 ≤ M j ∧ M j ≤ 3) → ∀ (r b : Int) (f : Int → Int) (m k : Int) (E : Int → Int → Int), PVr M n r b → (∀ i j, 0 ≤ i ∧ i < j ∧ j < m → f i < f j) → (∀ i, 0 ≤ i ∧ i < m → ∃ z, Cnd M n b z ∧ f i = kc z) → (∀ z, Cnd M n b z → ∀ i, 0 ≤ i ∧ i < m → kc z ≤ f i → ∃ j, 0 ≤ j ∧ j < m ∧ f j = kc z) → 0 ≤ k → KInv M n b f m k E → k ≤ 15
def CapP : Prop := ∀ (M y : Int → Int) (n : Int), (2 ≤ n ∧ n ≤ 4) → (∀ j, 0 ≤ M j ∧ M j ≤ 3) → Pos M n → (∀ j, 0 ≤ y j ∧ y j ≤ 5) → ∀ q m f, LInv (uu M n) (ul M n) (dt M y 0 n.toNat) (dt M y 1 n.toNat) q m f → m ≤ 2048
def CapE : Prop := ∀ (M y : Int → Int) (n r b k : Int) (E : Int → Int → Int), (2 ≤ n ∧ n ≤ 4) → (∀ j, 0 ≤ M j ∧ M j ≤ 3) → Pos M n → PVr M n r b → Bsp M n b k E → ∀ e, 0 ≤ e ∧ e < k → (∀ j, 0 ≤ j ∧ j < n → y j = if 0 ≤ E e j then E e j else 0) → ∀ q m f, LInv (uu M n) (ul M n) (dt M y 0 n.toNat) (dt M y 1 n.toNat) q m f → m ≤ 32
noncomputable def nwm (σ : Sg) : Sg := (gR σ, gC σ, gM σ, gZ σ, gY σ, fun k => if (k : Int) < gk (gM σ) (gC σ) then 1 else 0)
theorem s7_takeNewMatrix {d : Nat} {I : IE} {F : FE} {σ : Sg} (hcap : CapB) (hd : 5 ≤ d) (hV : SV σ) (h1 : I 1 0 = gR σ) (h2 : I 1 1 = gC σ) (h3 : F 2 = gM σ) (h4 : F 3 = gZ σ) (h5 : F 4 = gY σ) (hE : ∀ j, -100 ≤ F 43 j ∧ F 43 j ≤ 100) :
    MU m7_takeNewMatrix d shX [rv 0] I F (fun I' F' => CS (nwm σ) I' F' ∧ CB (nwm σ) I' F' ∧ (∀ a k, a ≠ 1 → a ≠ 42 → I' a k = I a k) ∧ ∀ a, a ≠ 43 → a ≠ 44 → a ≠ 45 → a ≠ 46 → F' a = F a) := by
  obtain ⟨v1, v2, v3, v4, v5, v6, v7, v8, v9⟩ := hV
  have hV' : SV (nwm σ) := ⟨v1, v2, v3, v4, v5, v6, v7, v8, fun k => by
    show (if (k : Int) < gk (gM σ) (gC σ) then (1 : Int) else 0) = 0 ∨ (if (k : Int) < gk (gM σ) (gC σ) then (1 : Int) else 0) = 1
    split
    · exact Or.inr rfl
    · exact Or.inl rfl⟩
  refine MS_of (ls := [lr 0]) f7_takeNewMatrix rfl rfl (Nat.le_of_ble_eq_true rfl) ?_
  refine w_aload i7_takeNewMatrix_0 rfl ?_
  refine w_getr i7_takeNewMatrix_1 rfl rfl ?_
  refine w_aload i7_takeNewMatrix_4 rfl ?_
  refine w_getr i7_takeNewMatrix_5 rfl rfl ?_
  refine w_cVU i7_takeNewMatrix_8 f2_build v2_build (s2_build (by omega) (by rw [h2]; omega) (by rw [h3]; exact v3) hE (by rw [h2, h3]; exact hcap _ _ v2 v3)) rfl rfl (by decide) rfl rfl (Nat.le_of_ble_eq_true rfl) (by omega) (fun I1 F1 hq => ?_)
  obtain ⟨⟨f1, f2⟩, q1, q2, q3, q4, b, q5, q6⟩ := hq
  obtain ⟨e, he⟩ : ∃ e : Nat, I1 42 0 = (e : Int) := ⟨(I1 42 0).toNat, by omega⟩
  refine w_aload i7_takeNewMatrix_11 rfl ?_
  refine w_getr i7_takeNewMatrix_12 rfl rfl ?_
  refine w_aload i7_takeNewMatrix_15 rfl ?_
  refine w_getr i7_takeNewMatrix_16 rfl rfl ?_
  refine w_get i7_takeNewMatrix_19 rfl rfl ?_
  rw [he]
  refine w_cVU i7_takeNewMatrix_22 f5_switchAllOn v5_switchAllOn (s5_switchAllOn (by omega)) rfl rfl (by decide) rfl rfl (Nat.le_of_ble_eq_true rfl) (by omega) (fun I2 F2 hs => ?_)
  refine w_vret i7_takeNewMatrix_25 rfl ⟨Nat.le_refl _, Nat.le_refl _⟩ ?_
  refine ⟨rfl, rfl, ?_⟩
  obtain ⟨eF, x, rfl, x1, x2, x3⟩ := hs
  rw [eF]
  rw [h2, h3] at q5 q6
  rw [h2] at q1
  have eq := (show Bas (gM σ) (gC σ) (I1 42 0, I1 42 1, en F1) from ⟨q2, b, q5, q6⟩).eq (by omega)
  have u : ∀ a k, a ≠ 1 → upI I1 1 5 x a k = I1 a k := fun a k ha => by simp only [upI]; rw [if_neg (by omega)]
  have u1 : ∀ k, k ≠ 5 → upI I1 1 5 x 1 k = I1 1 k := fun k hk => by simp only [upI]; rw [if_neg (by omega)]
  refine ⟨⟨hV', by rw [u1 0 (by decide), f1 1 0 (by decide), h1]; rfl, by rw [u1 1 (by decide), f1 1 1 (by decide), h2]; rfl, by rw [f2 2 (by decide) (by decide) (by decide) (by decide), h3]; rfl, by rw [f2 3 (by decide) (by decide) (by decide) (by decide), h4]; rfl, by rw [f2 4 (by decide) (by decide) (by decide) (by decide), h5]; rfl, by simp only [upI, and_self, if_true]; exact ⟨x1, x2⟩, fun k hk => ?_⟩, ⟨by rw [u 42 3 (by decide), q1]; rfl, by rw [u 42 0 (by decide)]; exact ⟨q2, q3⟩, q4, b, by rw [u 42 1 (by decide)]; exact q5, by rw [u 42 0 (by decide)]; exact q6⟩, fun a k h h' => by rw [u a k h, f1 a k h'], f2⟩
  show bt (upI I1 1 5 x 1 5) k = if (k : Int) < gk (gM σ) (gC σ) then 1 else 0
  rw [← eq.1, he]
  simp only [upI, and_self, if_true]
  rw [x3 k hk]
  by_cases hke : k < e
  · rw [if_pos hke, if_pos (by omega)]
  · rw [if_neg hke, if_neg (by omega)]
theorem s7_graverCount {d : Nat} {I : IE} {F : FE} {S : Sx} (h : CI S I F) : MR m7_graverCount d shX [rv 0] I F (gk (gM S.1) (gC S.1)) := by
  obtain ⟨hS, hH, hT, ⟨b1, b2, b3, b, b4, b5⟩, hP⟩ := h
  have eq := (show Bas (gM S.1) (gC S.1) (I 42 0, I 42 1, en F) from ⟨b2.1, b, b4, b5⟩).eq (by have := hS.1.2.1; omega)
  rw [← eq.1]
  refine MS_of (ls := [lr 0]) f7_graverCount rfl rfl (Nat.le_of_ble_eq_true rfl) ?_
  refine w_aload i7_graverCount_0 rfl ?_
  refine w_getr i7_graverCount_1 rfl rfl ?_
  refine w_get i7_graverCount_4 rfl rfl ?_
  refine w_iret i7_graverCount_7 (Or.inl rfl) ⟨Nat.le_refl _, Nat.le_refl _⟩ ?_
  exact ⟨rfl, rfl, rfl, rfl⟩
theorem s7_isPositive {d : Nat} {I : IE} {F : FE} {S : Sx} (hd : 2 ≤ d) (h : CI S I F) : MP m7_isPositive d shX [rv 0] I F (tf (Pos (gM S.1) (gC S.1))) := by
  have hS := h.1
  obtain ⟨v, s1, s2, s3, s4⟩ := hS
  have hn := v.2.1
  refine MS_of (ls := [lr 0]) f7_isPositive rfl rfl (Nat.le_of_ble_eq_true rfl) ?_
  refine w_aload i7_isPositive_0 rfl ?_
  refine w_getr i7_isPositive_1 rfl rfl ?_
  refine w_cVP i7_isPositive_4 f5_hasNoZeroColumn v5_hasNoZeroColumn (s5_hasNoZeroColumn (by omega) (by omega)) rfl rfl (by decide) rfl rfl (Nat.le_of_ble_eq_true rfl) (by omega) (fun v hv => ?_)
  refine w_cSR i7_isPositive_7 f7_asNumber v7_asNumber (s7_asNumber (by rcases hv with h | h <;> omega)) rfl rfl (Nat.le_of_ble_eq_true rfl) (by omega) ?_
  refine w_iret i7_isPositive_10 (Or.inl rfl) ⟨Nat.le_refl _, Nat.le_refl _⟩ ?_
  rw [s2, s3] at hv
  exact ⟨rfl, _, rfl, hv, rfl, rfl⟩
theorem s7_graverEntry {d : Nat} {I : IE} {F : FE} {S : Sx} {x y : Int} (hd : 2 ≤ d) (h : CI S I F) : MR m7_graverEntry d shX [rv 0, iv x, iv y] I F (if (0 ≤ x ∧ x < gk (gM S.1) (gC S.1)) ∧ 0 ≤ y ∧ y < gC S.1 then gE (gM S.1) (gC S.1) x y else -1001) := by
  obtain ⟨v, s1, s2, s3, s4⟩ := h.1
  have hn := v.2.1
  obtain ⟨b1, b2, b3, b, b4, b5⟩ := h.2.2.2.1
  have eq := (show Bas (gM S.1) (gC S.1) (I 42 0, I 42 1, en F) from ⟨b2.1, b, b4, b5⟩).eq (by omega)
  obtain ⟨q1, q2, q3, q4⟩ := eq
  rw [← q1]
  refine MS_of (ls := [lr 0, li x, li y]) f7_graverEntry rfl rfl (Nat.le_of_ble_eq_true rfl) ?_
  refine w_aload i7_graverEntry_0 rfl ?_
  refine w_iload i7_graverEntry_1 rfl ?_
  refine w_cVP i7_graverEntry_2 f7_isElement v7_isElement s7_isElement rfl rfl (by decide) rfl rfl (Nat.le_of_ble_eq_true rfl) (by omega) (fun v1 hv1 => ?_)
  refine w_ifeq i7_graverEntry_5 (fun h5 => ?_) (fun h5 => ?_)
  · refine w_const i7_graverEntry_16 ?_
    refine w_iret i7_graverEntry_19 (Or.inl rfl) ⟨Nat.le_refl _, Nat.le_refl _⟩ ?_
    rw [if_neg]
    · exact ⟨rfl, rfl, rfl, rfl⟩
    · intro z
      first
        | (rcases hv1 with h | h <;> omega)
        | (rcases hv1 with h | h <;> rcases hv2 with g | g <;> omega)
  · refine w_aload i7_graverEntry_8 rfl ?_
    refine w_iload i7_graverEntry_9 rfl ?_
    refine w_cVP i7_graverEntry_10 f7_isColumn v7_isColumn s7_isColumn rfl rfl (by decide) rfl rfl (Nat.le_of_ble_eq_true rfl) (by omega) (fun v2 hv2 => ?_)
    rw [s2] at hv2
    refine w_ifne i7_graverEntry_13 (fun h13 => ?_) (fun h13 => ?_)
    · refine w_aload i7_graverEntry_20 rfl ?_
      refine w_getr i7_graverEntry_21 rfl rfl ?_
      refine w_iload i7_graverEntry_24 rfl ?_
      refine w_iload i7_graverEntry_25 rfl ?_
      refine w_cVR i7_graverEntry_26 f2_at v2_at (s2_at (by rcases hv1 with h | h <;> rcases hv2 with g | g <;> omega) (by rcases hv1 with h | h <;> rcases hv2 with g | g <;> omega)) rfl rfl (by decide) rfl rfl (Nat.le_of_ble_eq_true rfl) (by omega) ?_
      refine w_iret i7_graverEntry_29 (Or.inl rfl) ⟨Nat.le_refl _, Nat.le_refl _⟩ ?_
      rw [if_pos (by rcases hv1 with h | h <;> rcases hv2 with g | g <;> omega), q3 x (by rcases hv1 with h | h <;> omega) y (by rcases hv2 with h | h <;> omega)]
      exact ⟨rfl, rfl, rfl, rfl⟩
    · refine w_const i7_graverEntry_16 ?_
      refine w_iret i7_graverEntry_19 (Or.inl rfl) ⟨Nat.le_refl _, Nat.le_refl _⟩ ?_
      rw [if_neg]
      · exact ⟨rfl, rfl, rfl, rfl⟩
      · intro z
        first
          | (rcases hv1 with h | h <;> omega)
          | (rcases hv1 with h | h <;> rcases hv2 with g | g <;> omega)
theorem s7_isActive {d : Nat} {I : IE} {F : FE} {S : Sx} {x : Int} (hd : 2 ≤ d) (h : CI S I F) : MR m7_isActive d shX [rv 0, iv x] I F (if 0 ≤ x ∧ x < gk (gM S.1) (gC S.1) then gA S.1 x.toNat else -1001) := by
  obtain ⟨v, s1, s2, s3, s4, s5, s6, s7⟩ := h.1
  have hn := v.2.1
  have hA := v.2.2.2.2.2.2.2.2
  obtain ⟨b1, b2, b3, b, b4, b5⟩ := h.2.2.2.1
  have eq := (show Bas (gM S.1) (gC S.1) (I 42 0, I 42 1, en F) from ⟨b2.1, b, b4, b5⟩).eq (by omega)
  obtain ⟨q1, q2, q3, q4⟩ := eq
  rw [← q1]
  by_cases hc : 0 ≤ x ∧ x < I 42 0
  · rw [if_pos hc]
    obtain ⟨e, rfl⟩ : ∃ e : Nat, x = (e : Int) := ⟨x.toNat, by omega⟩
    have e1 := s7 e (by omega)
    have e2 := hA e
    rw [show ((e : Int)).toNat = e by omega]
    refine MS_of (ls := [lr 0, li e]) f7_isActive rfl rfl (Nat.le_of_ble_eq_true rfl) ?_
    refine w_aload i7_isActive_0 rfl ?_
    refine w_iload i7_isActive_1 rfl ?_
    refine w_cVP i7_isActive_2 f7_isElement v7_isElement s7_isElement rfl rfl (by decide) rfl rfl (Nat.le_of_ble_eq_true rfl) (by omega) (fun v1 hv1 => ?_)
    refine w_ifne i7_isActive_5 (fun h5 => ?_) (fun h_ => absurd h_ (by rcases hv1 with h | h <;> omega))
    refine w_aload i7_isActive_12 rfl ?_
    refine w_getr i7_isActive_13 rfl rfl ?_
    refine w_iload i7_isActive_16 rfl ?_
    refine w_cVP i7_isActive_17 f5_isOn v5_isOn (s5_isOn (by omega) s6) rfl rfl (by decide) rfl rfl (Nat.le_of_ble_eq_true rfl) (by omega) (fun v2 hv2 => ?_)
    refine w_cSR i7_isActive_20 f7_asNumber v7_asNumber (s7_asNumber (by rcases hv2 with h | h <;> omega)) rfl rfl (Nat.le_of_ble_eq_true rfl) (by omega) ?_
    refine w_iret i7_isActive_23 (Or.inl rfl) ⟨Nat.le_refl _, Nat.le_refl _⟩ ?_
    rw [e1] at hv2
    rw [show gA S.1 e = v2 by rcases hv2 with h | h <;> omega]
    exact ⟨rfl, rfl, rfl, rfl⟩
  · rw [if_neg hc]
    refine MS_of (ls := [lr 0, li x]) f7_isActive rfl rfl (Nat.le_of_ble_eq_true rfl) ?_
    refine w_aload i7_isActive_0 rfl ?_
    refine w_iload i7_isActive_1 rfl ?_
    refine w_cVP i7_isActive_2 f7_isElement v7_isElement s7_isElement rfl rfl (by decide) rfl rfl (Nat.le_of_ble_eq_true rfl) (by omega) (fun v1 hv1 => ?_)
    refine w_ifne i7_isActive_5 (fun h_ => absurd h_ (by rcases hv1 with h | h <;> omega)) (fun h5 => ?_)
    refine w_const i7_isActive_8 ?_
    refine w_iret i7_isActive_11 (Or.inl rfl) ⟨Nat.le_refl _, Nat.le_refl _⟩ ?_
    exact ⟨rfl, rfl, rfl, rfl⟩
def wZ (S : Sx) (i v : Int) : Sx := ((gR S.1, gC S.1, gM S.1, fun j => if j = i then v else gZ S.1 j, gY S.1, gA S.1), S.2)
def wY (S : Sx) (i v : Int) : Sx := ((gR S.1, gC S.1, gM S.1, gZ S.1, fun j => if j = i then v else gY S.1 j, gA S.1), S.2)
theorem CI.wZ {S : Sx} {I : IE} {F : FE} {i v : Int} (h : CI S I F) (hi : 0 ≤ i ∧ i < gC S.1) (hv : -30 ≤ v ∧ v ≤ 30) : CI (wZ S i v) I (upF F 3 i v) := by
  obtain ⟨⟨⟨v1, v2, v3, v4, v5, v6, v7, v8, v9⟩, s1, s2, s3, s4, s5, s6, s7⟩, hH, hT, hB, hP⟩ := h
  have u : ∀ a, a ≠ 3 → upF F 3 i v a = F a := fun a ha => by funext j; simp only [upF, ha, false_and, if_false]
  refine ⟨⟨⟨v1, v2, v3, v4, fun j => ?_, fun j hj => ?_, v7, v8, v9⟩, s1, s2, by rw [u 2 (by decide)]; exact s3, ?_, by rw [u 4 (by decide)]; exact s5, s6, s7⟩, hH.fr (fun _ _ _ => rfl) (fun a ha => u a (by omega)), hT.fr rfl (u 41 (by decide)), hB.fr (fun _ => rfl) (u 43 (by decide)), hP.fr (fun _ => rfl) rfl (u 53 (by decide))⟩
  · show -30 ≤ (if j = i then v else gZ S.1 j) ∧ (if j = i then v else gZ S.1 j) ≤ 30
    split
    · exact hv
    · exact v5 j
  · show (if j = i then v else gZ S.1 j) = 0
    have hj' : j < 0 ∨ gC S.1 ≤ j := hj
    rw [if_neg (by omega)]
    exact v6 j hj'
  · funext j
    show upF F 3 i v 3 j = if j = i then v else gZ S.1 j
    simp only [upF, true_and]
    rw [s4]
theorem CI.wY {S : Sx} {I : IE} {F : FE} {i v : Int} (h : CI S I F) (h9 : I 0 9 = 0) (hi : 0 ≤ i ∧ i < gC S.1) (hv : 0 ≤ v ∧ v ≤ 5) : CI (wY S i v) I (upF F 4 i v) := by
  obtain ⟨⟨⟨v1, v2, v3, v4, v5, v6, v7, v8, v9⟩, s1, s2, s3, s4, s5, s6, s7⟩, hH, hT, hB, hP⟩ := h
  have u : ∀ a, a ≠ 4 → upF F 4 i v a = F a := fun a ha => by funext j; simp only [upF, ha, false_and, if_false]
  refine ⟨⟨⟨v1, v2, v3, v4, v5, v6, fun j => ?_, fun j hj => ?_, v9⟩, s1, s2, by rw [u 2 (by decide)]; exact s3, by rw [u 3 (by decide)]; exact s4, ?_, s6, s7⟩, hH.fr (fun _ _ _ => rfl) (fun a ha => u a (by omega)), hT.fr rfl (u 41 (by decide)), hB.fr (fun _ => rfl) (u 43 (by decide)), Or.inl h9⟩
  · show 0 ≤ (if j = i then v else gY S.1 j) ∧ (if j = i then v else gY S.1 j) ≤ 5
    split
    · exact hv
    · exact v7 j
  · show (if j = i then v else gY S.1 j) = 0
    have hj' : j < 0 ∨ gC S.1 ≤ j := hj
    rw [if_neg (by omega)]
    exact v8 j hj'
  · funext j
    show upF F 4 i v 4 j = if j = i then v else gY S.1 j
    simp only [upF, true_and]
    rw [s5]
theorem s7_setPoint {d : Nat} {I : IE} {F : FE} {S : Sx} {x y : Int} (hd : 4 ≤ d) (h : CI S I F) : MB m7_setPoint d shX [rv 0, iv x, iv y] I F (fun v I' F' => if (0 ≤ x ∧ x < gC S.1) ∧ 0 ≤ y ∧ y ≤ 5 then v = gY S.1 x ∧ CI (wY (psh S) x y) I' F' else v = -1001 ∧ CI S I' F') := by
  obtain ⟨v, s1, s2, s3, s4, s5, s6⟩ := h.1
  have hn := v.2.1
  by_cases hc : (0 ≤ x ∧ x < gC S.1) ∧ 0 ≤ y ∧ y ≤ 5
  · simp only [if_pos hc]
    refine MS_of (ls := [lr 0, li x, li y, lu]) f7_setPoint rfl rfl (Nat.le_of_ble_eq_true rfl) ?_
    refine w_aload i7_setPoint_0 rfl ?_
    refine w_iload i7_setPoint_1 rfl ?_
    refine w_cVP i7_setPoint_2 f7_isColumn v7_isColumn s7_isColumn rfl rfl (by decide) rfl rfl (Nat.le_of_ble_eq_true rfl) (by omega) (fun v1 hv1 => ?_)
    rw [s2] at hv1
    refine w_ifeq i7_setPoint_5 (fun h_ => absurd h_ (by rcases hv1 with h | h <;> omega)) (fun h5 => ?_)
    refine w_iload i7_setPoint_8 rfl ?_
    refine w_iflt i7_setPoint_9 (fun h_ => absurd h_ (by omega)) (fun h9 => ?_)
    refine w_iload i7_setPoint_12 rfl ?_
    refine w_const i7_setPoint_13 ?_
    refine w_icmple i7_setPoint_14 (fun h14 => ?_) (fun h_ => absurd h_ (by omega))
    refine w_aload i7_setPoint_21 rfl ?_
    refine w_getr i7_setPoint_22 rfl rfl ?_
    refine w_getr i7_setPoint_25 rfl rfl ?_
    refine w_iload i7_setPoint_28 rfl ?_
    refine w_iald i7_setPoint_29 rfl (by omega) ?_
    refine w_is3 i7_setPoint_30 ?_
    refine w_aload i7_setPoint_31 rfl ?_
    refine w_cVU i7_setPoint_32 f7_save v7_save (s7_save (by omega) h) rfl rfl (by decide) rfl rfl (Nat.le_of_ble_eq_true rfl) (by omega) (fun I1 F1 hq => ?_)
    refine w_aload i7_setPoint_35 rfl ?_
    refine w_getr i7_setPoint_36 rfl rfl ?_
    refine w_getr i7_setPoint_39 rfl rfl ?_
    refine w_iload i7_setPoint_42 rfl ?_
    refine w_iload i7_setPoint_43 rfl ?_
    refine w_iast i7_setPoint_44 rfl (by omega) ?_
    refine w_iload i7_setPoint_45 rfl ?_
    refine w_iret i7_setPoint_46 (Or.inl rfl) ⟨Nat.le_refl _, Nat.le_refl _⟩ ?_
    exact ⟨rfl, _, rfl, by rw [s5], hq.1.wY hq.2 hc.1 hc.2⟩
  · simp only [if_neg hc]
    refine MS_of (ls := [lr 0, li x, li y, lu]) f7_setPoint rfl rfl (Nat.le_of_ble_eq_true rfl) ?_
    refine w_aload i7_setPoint_0 rfl ?_
    refine w_iload i7_setPoint_1 rfl ?_
    refine w_cVP i7_setPoint_2 f7_isColumn v7_isColumn s7_isColumn rfl rfl (by decide) rfl rfl (Nat.le_of_ble_eq_true rfl) (by omega) (fun v1 hv1 => ?_)
    rw [s2] at hv1
    refine w_ifeq i7_setPoint_5 (fun h5 => ?_) (fun h5 => ?_)
    · refine w_const i7_setPoint_17 ?_
      refine w_iret i7_setPoint_20 (Or.inl rfl) ⟨Nat.le_refl _, Nat.le_refl _⟩ ?_
      exact ⟨rfl, _, rfl, rfl, h⟩
    · refine w_iload i7_setPoint_8 rfl ?_
      refine w_iflt i7_setPoint_9 (fun h9 => ?_) (fun h9 => ?_)
      · refine w_const i7_setPoint_17 ?_
        refine w_iret i7_setPoint_20 (Or.inl rfl) ⟨Nat.le_refl _, Nat.le_refl _⟩ ?_
        exact ⟨rfl, _, rfl, rfl, h⟩
      · refine w_iload i7_setPoint_12 rfl ?_
        refine w_const i7_setPoint_13 ?_
        refine w_icmple i7_setPoint_14 (fun h_ => absurd h_ (by rcases hv1 with h | h <;> omega)) (fun h14 => ?_)
        refine w_const i7_setPoint_17 ?_
        refine w_iret i7_setPoint_20 (Or.inl rfl) ⟨Nat.le_refl _, Nat.le_refl _⟩ ?_
        exact ⟨rfl, _, rfl, rfl, h⟩
