/-- the fiber of y: how many vectors, and their codes, ascending -/
def FibP (M : Int → Int) (n : Int) (y : Int → Int) (p : Int × (Int → Int)) : Prop := LInv (uu M n) (ul M n) (dt M y 0 n.toNat) (dt M y 1 n.toNat) 2097152 p.1 p.2
noncomputable def fbp (M : Int → Int) (n : Int) (y : Int → Int) : Int × (Int → Int) := Classical.epsilon (FibP M n y)
noncomputable def fbm (M : Int → Int) (n : Int) (y : Int → Int) : Int := (fbp M n y).1
noncomputable def fbf (M : Int → Int) (n : Int) (y : Int → Int) : Int → Int := (fbp M n y).2
theorem LInv.eq {u l : Int → Int} {s t p m m' : Int} {f f' : Int → Int} (h : LInv u l s t p m f) (g : LInv u l s t p m' f') : m = m' ∧ ∀ i, 0 ≤ i ∧ i < m → f i = f' i := by
  refine sorted_eq h.1 g.1 h.2.1 g.2.1 (fun i hi => ?_) (fun i hi => ?_)
  · obtain ⟨j, j0, j1, j2⟩ := (g.2.2 (f i)).mpr ((h.2.2 (f i)).mp ⟨i, hi.1, hi.2, rfl⟩)
    exact ⟨j, j0, j1, j2⟩
  · obtain ⟨j, j0, j1, j2⟩ := (h.2.2 (f' i)).mpr ((g.2.2 (f' i)).mp ⟨i, hi.1, hi.2, rfl⟩)
    exact ⟨j, j0, j1, j2⟩
theorem FibP.eq {M : Int → Int} {n : Int} {y : Int → Int} {m : Int} {f : Int → Int} (h : FibP M n y (m, f)) : m = fbm M n y ∧ (∀ i, 0 ≤ i ∧ i < m → f i = fbf M n y i) ∧ FibP M n y (fbm M n y, fbf M n y) := by
  have g : FibP M n y (fbp M n y) := Classical.epsilon_spec ⟨_, h⟩
  have e := LInv.eq h g
  exact ⟨e.1, e.2, g⟩
theorem LInv.cut {u l : Int → Int} {s t p m : Int} {f g : Int → Int} (h : LInv u l s t p m f) (e : ∀ i, 0 ≤ i ∧ i < m → f i = g i) : LInv u l s t p m g := by
  refine ⟨h.1, fun i j hij => by rw [← e i (by omega), ← e j (by omega)]; exact h.2.1 i j hij, fun x => ?_⟩
  rw [← h.2.2 x]
  exact ⟨fun ⟨i, a, b, c⟩ => ⟨i, a, b, by rw [e i ⟨a, b⟩]; exact c⟩, fun ⟨i, a, b, c⟩ => ⟨i, a, b, by rw [← e i ⟨a, b⟩]; exact c⟩⟩
/-- the vectors of the fiber, by four places -/
noncomputable def fbY (M : Int → Int) (n : Int) (y : Int → Int) (i : Int) : Int → Int := Classical.epsilon (fun z => FS (uu M n) (ul M n) (dt M y 0 n.toNat) (dt M y 1 n.toNat) z ∧ fbf M n y i = cd4 z)
theorem fbY_ok {M : Int → Int} {n : Int} {y : Int → Int} (h : FibP M n y (fbm M n y, fbf M n y)) {i : Int} (hi : 0 ≤ i ∧ i < fbm M n y) : FS (uu M n) (ul M n) (dt M y 0 n.toNat) (dt M y 1 n.toNat) (fbY M n y i) ∧ fbf M n y i = cd4 (fbY M n y i) := by
  obtain ⟨z, z1, z2, z3⟩ := (h.2.2 (fbf M n y i)).mp ⟨i, hi.1, hi.2, rfl⟩
  exact Classical.epsilon_spec (p := fun z => FS (uu M n) (ul M n) (dt M y 0 n.toNat) (dt M y 1 n.toNat) z ∧ fbf M n y i = cd4 z) ⟨z, z1, z3⟩
theorem dt_nn {M v : Int → Int} {r : Int} (hM : ∀ j, 0 ≤ M j ∧ M j ≤ 3) : ∀ (k : Nat), (∀ j : Int, 0 ≤ j ∧ j < k → 0 ≤ v j ∧ v j ≤ 9) → 0 ≤ dt M v r k ∧ dt M v r k ≤ 27 * (k : Int)
  | 0, _ => by simp [dt]
  | k + 1, h => by
    have := dt_nn (r := r) hM k (fun j hj => h j (by omega))
    have h1 := hM (r * 4 + k)
    have h2 := h k (by omega)
    have h3 := Int.mul_nonneg h1.1 h2.1
    have h4 := mulb h1 (B := 9) (b := v k) (by omega)
    simp only [dt]
    omega
theorem uu_b {M : Int → Int} {n : Int} (hM : ∀ j, 0 ≤ M j ∧ M j ≤ 3) (i : Int) : (0 ≤ uu M n i ∧ uu M n i ≤ 3) ∧ 0 ≤ ul M n i ∧ ul M n i ≤ 3 := by
  unfold uu ul
  have h1 := hM (i - (4 - n))
  have h2 := hM (4 + (i - (4 - n)))
  split <;> omega
theorem le_mul1 {u y : Int} (hu : 1 ≤ u) (hy : 0 ≤ y) : y ≤ u * y := by
  have := Int.mul_le_mul_of_nonneg_right hu hy
  omega
theorem FS_110 {u l : Int → Int} {s t : Int} {y : Int → Int} (hu : ∀ i, (0 ≤ u i ∧ u i ≤ 3) ∧ 0 ≤ l i ∧ l i ≤ 3) (hs : s ≤ 108) (ht : t ≤ 108) (h : FS u l s t y) : ∀ j, 0 ≤ j ∧ j < 4 → y j ≤ 110 := by
  obtain ⟨h1, h2, h3⟩ := h
  have p : ∀ i, 0 ≤ i ∧ i < 4 → 0 ≤ u i * y i ∧ 0 ≤ l i * y i := fun i hi => ⟨Int.mul_nonneg (hu i).1.1 (h1 i hi).1, Int.mul_nonneg (hu i).2.1 (h1 i hi).1⟩
  have p0 := p 0 (by decide); have p1 := p 1 (by decide); have p2 := p 2 (by decide); have p3 := p 3 (by decide)
  have key : ∀ j, 0 ≤ j ∧ j < 4 → u j * y j ≤ 108 ∧ l j * y j ≤ 108 := fun j hj => by
    rcases (show j = 0 ∨ j = 1 ∨ j = 2 ∨ j = 3 by omega) with rfl | rfl | rfl | rfl <;> omega
  intro j hj
  have k1 := key j hj
  obtain ⟨a1, a2, a3⟩ := h1 j hj
  by_cases c : 1 ≤ u j
  · have := le_mul1 c a1; omega
  · by_cases c2 : 1 ≤ l j
    · have := le_mul1 c2 a1; omega
    · have := hu j
      have := a3 (by omega) (by omega)
      omega
theorem fbis_of {M y : Int → Int} {n : Int} {b N : Nat} {I : IE} {F : FE} (hn : 2 ≤ n ∧ n ≤ 4) (hM : ∀ j, 0 ≤ M j ∧ M j ≤ 3) (hy : ∀ j, 0 ≤ j ∧ j < n → 0 ≤ y j ∧ y j ≤ 9) (hB : FbAt b N) (hN : N = 2048 ∨ N = 32) (h1 : I b 1 = n) (h0 : I b 0 ≤ N) (hL : FibP M n y (I b 0, F (b + 3))) : FbIs b N (fbm M n y).toNat n (fbY M n y) I F ∧ I b 0 = fbm M n y ∧ (∀ i, 0 ≤ i ∧ i < fbm M n y → F (b + 3) i = fbf M n y i) ∧ FibP M n y (fbm M n y, fbf M n y) := by
  obtain ⟨e1, e2, e3⟩ := hL.eq
  have hm := hL.1
  have hm' : 0 ≤ I b 0 := hm
  have d0 := dt_nn (v := y) (r := 0) hM n.toNat (fun j hj => hy j (by omega))
  have d1 := dt_nn (v := y) (r := 1) hM n.toNat (fun j hj => hy j (by omega))
  refine ⟨⟨hB, hN, by omega, by omega, h1, hn, fun i j hij => hL.2.1 i j (by show 0 ≤ i ∧ i < j ∧ j < I b 0; omega), fun i hi => ?_⟩, e1, fun i hi => e2 i (by omega), e3⟩
  obtain ⟨g1, g2⟩ := fbY_ok e3 (i := i) (by omega)
  exact ⟨by rw [e2 i (by omega), g2], fun j hj => ⟨(g1.1 j hj).1, (g1.1 j hj).2.1⟩, FS_110 (uu_b hM) (by omega) (by omega) g1⟩
theorem s7_buildPointFiber {d : Nat} {I : IE} {F : FE} {S : Sx} (hcap : CapP) (hd : 5 ≤ d) (h : CI S I F) (hpos : Pos (gM S.1) (gC S.1)) : MU m7_buildPointFiber d shX [rv 0] I F (fun I' F' => CI S I' F' ∧ I' 0 9 = 1) := by
  have h0 := h
  obtain ⟨hS, hH, hT, hB, hP⟩ := h
  obtain ⟨v, s1, s2, s3, s4, s5, s6⟩ := id hS
  have hn := v.2.1
  have hM := v.2.2.1
  have hy : ∀ j, 0 ≤ gY S.1 j ∧ gY S.1 j ≤ 5 := v.2.2.2.2.2.2.1
  have d0 := dt_nn (M := gM S.1) (v := gY S.1) (r := 0) hM (gC S.1).toNat (fun j hj => by have := hy j; omega)
  have d1 := dt_nn (M := gM S.1) (v := gY S.1) (r := 1) hM (gC S.1).toNat (fun j hj => by have := hy j; omega)
  refine MS_of (ls := [lr 0]) f7_buildPointFiber rfl rfl (Nat.le_of_ble_eq_true rfl) ?_
  rcases hP with hP | hP
  · refine w_aload i7_buildPointFiber_0 rfl ?_
    refine w_get i7_buildPointFiber_1 rfl rfl ?_
    refine w_ifne i7_buildPointFiber_4 (fun h_ => absurd h_ (by omega)) (fun h4 => ?_)
    refine w_aload i7_buildPointFiber_7 rfl ?_
    refine w_getr i7_buildPointFiber_8 rfl rfl ?_
    refine w_aload i7_buildPointFiber_11 rfl ?_
    refine w_getr i7_buildPointFiber_12 rfl rfl ?_
    refine w_aload i7_buildPointFiber_15 rfl ?_
    refine w_getr i7_buildPointFiber_16 rfl rfl ?_
    refine w_getr i7_buildPointFiber_19 rfl rfl ?_
    refine w_cVU i7_buildPointFiber_22 f1_build v1_build (s1_build (b := 50) (N := 2048) (p := 4) (Np := 4) fb50 (by omega) (by omega) (by rw [s3]; exact hM) (by rw [s2, s3]; exact hpos) rfl (by decide) (by decide) (fun j _ => by rw [s5]; have := hy j; omega) (by rw [s2, s3, s5]; omega) (by rw [s2, s3, s5]; omega) (by rw [s2, s3, s5]; exact hcap _ _ _ hn hM hpos hy) (by decide)) rfl rfl (by decide) rfl rfl (Nat.le_of_ble_eq_true rfl) (by omega) (fun I1 F1 hq => ?_)
    obtain ⟨q1, q2, q3, q4⟩ := hq
    rw [s2, s3, s5] at q4
    refine w_aload i7_buildPointFiber_25 rfl ?_
    refine w_const i7_buildPointFiber_26 ?_
    refine w_put i7_buildPointFiber_27 rfl rfl (Or.inr ⟨rfl, by omega⟩) ?_
    refine w_vret i7_buildPointFiber_30 rfl ⟨Nat.le_refl _, Nat.le_refl _⟩ ?_
    refine ⟨rfl, rfl, ⟨?_, ?_, ?_, ?_, ?_⟩, by simp [upI]⟩
    · exact CS.fr hS (fun k => by simp only [upI]; rw [if_neg (by omega)]; exact q1 1 k (by decide)) (fun a ha => q2 a (by omega) (by omega) (by omega))
    · exact hH.fr (fun a k ha => by simp only [upI]; rw [if_neg (by omega)]; exact q1 a k (by omega)) (fun a ha => q2 a (by omega) (by omega) (by omega))
    · exact hT.fr (by simp only [upI]; rw [if_neg (by omega)]; exact q1 39 0 (by decide)) (q2 41 (by decide) (by decide) (by decide))
    · exact hB.fr (fun k => by simp only [upI]; rw [if_neg (by omega)]; exact q1 42 k (by decide)) (q2 43 (by decide) (by decide) (by decide))
    · have u : ∀ k, upI I1 0 9 1 50 k = I1 50 k := fun k => by simp only [upI]; rw [if_neg (by omega)]
      refine Or.inr ⟨by simp [upI], hpos, by rw [u, q3, s2], ⟨by rw [u]; exact q4.1, ?_⟩, by rw [u]; exact q4⟩
      rw [u]
      exact hcap _ _ _ hn hM hpos hy _ _ _ q4
  · refine w_aload i7_buildPointFiber_0 rfl ?_
    refine w_get i7_buildPointFiber_1 rfl rfl ?_
    refine w_ifne i7_buildPointFiber_4 (fun h4 => ?_) (fun h_ => absurd h_ (by rw [hP.1]; decide))
    refine w_vret i7_buildPointFiber_30 rfl ⟨Nat.le_refl _, Nat.le_refl _⟩ ?_
    exact ⟨rfl, rfl, h0, hP.1⟩
theorem CI.fib {S : Sx} {I : IE} {F : FE} (h : CI S I F) (h9 : I 0 9 = 1) : FbIs 50 2048 (fbm (gM S.1) (gC S.1) (gY S.1)).toNat (gC S.1) (fbY (gM S.1) (gC S.1) (gY S.1)) I F ∧ I 50 0 = fbm (gM S.1) (gC S.1) (gY S.1) ∧ (∀ i, 0 ≤ i ∧ i < fbm (gM S.1) (gC S.1) (gY S.1) → F 53 i = fbf (gM S.1) (gC S.1) (gY S.1) i) ∧ FibP (gM S.1) (gC S.1) (gY S.1) (fbm (gM S.1) (gC S.1) (gY S.1), fbf (gM S.1) (gC S.1) (gY S.1)) := by
  obtain ⟨⟨v, s1, s2, s3, s4, s5, s6⟩, hH, hT, hB, hP⟩ := h
  rcases hP with hP | ⟨-, p1, p2, p3, p4⟩
  · omega
  · have hy : ∀ j, 0 ≤ gY S.1 j ∧ gY S.1 j ≤ 5 := v.2.2.2.2.2.2.1
    exact fbis_of v.2.1 v.2.2.1 (fun j _ => by have := hy j; omega) fb50 (Or.inl rfl) p2 p3.2 p4
theorem s7_fiberSize {d : Nat} {I : IE} {F : FE} {S : Sx} (hcap : CapP) (hd : 6 ≤ d) (h : CI S I F) : MB m7_fiberSize d shX [rv 0] I F (fun v I' F' => CI S I' F' ∧ ((¬ Pos (gM S.1) (gC S.1) ∧ v = -1002) ∨ Pos (gM S.1) (gC S.1) ∧ v = fbm (gM S.1) (gC S.1) (gY S.1))) := by
  obtain ⟨v, s1, s2, s3, s4⟩ := id h.1
  have hn := v.2.1
  refine MS_of (ls := [lr 0]) f7_fiberSize rfl rfl (Nat.le_of_ble_eq_true rfl) ?_
  refine w_aload i7_fiberSize_0 rfl ?_
  refine w_getr i7_fiberSize_1 rfl rfl ?_
  refine w_cVP i7_fiberSize_4 f5_hasNoZeroColumn v5_hasNoZeroColumn (s5_hasNoZeroColumn (by omega) (by omega)) rfl rfl (by decide) rfl rfl (Nat.le_of_ble_eq_true rfl) (by omega) (fun v1 hv1 => ?_)
  rw [s2, s3] at hv1
  refine w_ifne i7_fiberSize_7 (fun h7 => ?_) (fun h7 => ?_)
  · refine w_aload i7_fiberSize_14 rfl ?_
    refine w_cVU i7_fiberSize_15 f7_buildPointFiber v7_buildPointFiber (s7_buildPointFiber hcap (by omega) h (by rcases hv1 with ⟨-, a⟩ | ⟨a, -⟩; exact a; omega)) rfl rfl (by decide) rfl rfl (Nat.le_of_ble_eq_true rfl) (by omega) (fun I1 F1 hq => ?_)
    refine w_aload i7_fiberSize_18 rfl ?_
    refine w_getr i7_fiberSize_19 rfl rfl ?_
    refine w_get i7_fiberSize_22 rfl rfl ?_
    refine w_iret i7_fiberSize_25 (Or.inl rfl) ⟨Nat.le_refl _, Nat.le_refl _⟩ ?_
    exact ⟨rfl, _, rfl, hq.1, Or.inr ⟨by rcases hv1 with ⟨-, a⟩ | ⟨a, -⟩; exact a; omega, (hq.1.fib hq.2).2.1⟩⟩
  · refine w_const i7_fiberSize_10 ?_
    refine w_iret i7_fiberSize_13 (Or.inl rfl) ⟨Nat.le_refl _, Nat.le_refl _⟩ ?_
    exact ⟨rfl, _, rfl, h, Or.inl ⟨fun g => by rcases hv1 with ⟨a, -⟩ | ⟨-, a⟩; omega; exact a g, rfl⟩⟩
theorem s7_fiberEntry {d : Nat} {I : IE} {F : FE} {S : Sx} {x y : Int} (hcap : CapP) (hd : 6 ≤ d) (h : CI S I F) : MB m7_fiberEntry d shX [rv 0, iv x, iv y] I F (fun v I' F' => CI S I' F' ∧ ((¬ (0 ≤ x ∧ 0 ≤ y ∧ y < gC S.1) ∧ v = -1001) ∨ (0 ≤ x ∧ 0 ≤ y ∧ y < gC S.1) ∧ ((¬ Pos (gM S.1) (gC S.1) ∧ v = -1002) ∨ Pos (gM S.1) (gC S.1) ∧ v = if x < fbm (gM S.1) (gC S.1) (gY S.1) then fbY (gM S.1) (gC S.1) (gY S.1) x (y + (4 - gC S.1)) else -1009))) := by
  obtain ⟨v, s1, s2, s3, s4⟩ := id h.1
  have hn := v.2.1
  refine MS_of (ls := [lr 0, li x, li y]) f7_fiberEntry rfl rfl (Nat.le_of_ble_eq_true rfl) ?_
  refine w_iload i7_fiberEntry_0 rfl ?_
  refine w_iflt i7_fiberEntry_1 (fun h1 => ?_) (fun h1 => ?_)
  · refine w_const i7_fiberEntry_12 ?_
    refine w_iret i7_fiberEntry_15 (Or.inl rfl) ⟨Nat.le_refl _, Nat.le_refl _⟩ ?_
    first
    | exact ⟨rfl, _, rfl, h, Or.inl ⟨by omega, rfl⟩⟩
    | exact ⟨rfl, _, rfl, h, Or.inl ⟨by rcases hv0 with g | g <;> omega, rfl⟩⟩
  · refine w_aload i7_fiberEntry_4 rfl ?_
    refine w_iload i7_fiberEntry_5 rfl ?_
    refine w_cVP i7_fiberEntry_6 f7_isColumn v7_isColumn s7_isColumn rfl rfl (by decide) rfl rfl (Nat.le_of_ble_eq_true rfl) (by omega) (fun v0 hv0 => ?_)
    rw [s2] at hv0
    refine w_ifne i7_fiberEntry_9 (fun h9 => ?_) (fun h9 => ?_)
    · refine w_aload i7_fiberEntry_16 rfl ?_
      refine w_getr i7_fiberEntry_17 rfl rfl ?_
      refine w_cVP i7_fiberEntry_20 f5_hasNoZeroColumn v5_hasNoZeroColumn (s5_hasNoZeroColumn (by omega) (by omega)) rfl rfl (by decide) rfl rfl (Nat.le_of_ble_eq_true rfl) (by omega) (fun v1 hv1 => ?_)
      rw [s2, s3] at hv1
      have hxy : 0 ≤ x ∧ 0 ≤ y ∧ y < gC S.1 := by rcases hv0 with g | g <;> omega
      refine w_ifne i7_fiberEntry_23 (fun h23 => ?_) (fun h23 => ?_)
      · refine w_aload i7_fiberEntry_30 rfl ?_
        refine w_cVU i7_fiberEntry_31 f7_buildPointFiber v7_buildPointFiber (s7_buildPointFiber hcap (by omega) h (by rcases hv1 with ⟨-, a⟩ | ⟨a, -⟩; exact a; omega)) rfl rfl (by decide) rfl rfl (Nat.le_of_ble_eq_true rfl) (by omega) (fun I1 F1 hq => ?_)
        have hPo : Pos (gM S.1) (gC S.1) := by rcases hv1 with ⟨-, a⟩ | ⟨a, -⟩; exact a; omega
        obtain ⟨fi, f0, f1, f2⟩ := hq.1.fib hq.2
        have hr := fi.2.2.2.2.2.2.2 x
        have fi1 := fi.2.2.2.2.1
        have fi2 := fi.2.2.1
        have fz := f2.1
        refine w_iload i7_fiberEntry_34 rfl ?_
        refine w_aload i7_fiberEntry_35 rfl ?_
        refine w_getr i7_fiberEntry_36 rfl rfl ?_
        refine w_get i7_fiberEntry_39 rfl rfl ?_
        refine w_icmplt i7_fiberEntry_42 (fun h42 => ?_) (fun h42 => ?_)
        · refine w_aload i7_fiberEntry_49 rfl ?_
          refine w_getr i7_fiberEntry_50 rfl rfl ?_
          refine w_iload i7_fiberEntry_53 rfl ?_
          refine w_iload i7_fiberEntry_54 rfl ?_
          refine w_cVR i7_fiberEntry_55 f1_at v1_at (s1_at (b := 50) (N := 2048) (y := fbY (gM S.1) (gC S.1) (gY S.1) x) fb50 (by omega) (by have hfz : 0 ≤ fbm (gM S.1) (gC S.1) (gY S.1) := fz; omega) (by omega) (by omega) (hr (by omega)).2.1 (hr (by omega)).1) rfl rfl (by decide) rfl rfl (Nat.le_of_ble_eq_true rfl) (by omega) ?_
          refine w_iret i7_fiberEntry_58 (Or.inl rfl) ⟨Nat.le_refl _, Nat.le_refl _⟩ ?_
          exact ⟨rfl, _, rfl, hq.1, Or.inr ⟨hxy, Or.inr ⟨hPo, by rw [if_pos (by omega), fi1]⟩⟩⟩
        · refine w_const i7_fiberEntry_45 ?_
          refine w_iret i7_fiberEntry_48 (Or.inl rfl) ⟨Nat.le_refl _, Nat.le_refl _⟩ ?_
          exact ⟨rfl, _, rfl, hq.1, Or.inr ⟨hxy, Or.inr ⟨hPo, by rw [if_neg (by omega)]⟩⟩⟩
      · refine w_const i7_fiberEntry_26 ?_
        refine w_iret i7_fiberEntry_29 (Or.inl rfl) ⟨Nat.le_refl _, Nat.le_refl _⟩ ?_
        exact ⟨rfl, _, rfl, h, Or.inr ⟨hxy, Or.inl ⟨fun g => by rcases hv1 with ⟨a, -⟩ | ⟨-, a⟩; omega; exact a g, rfl⟩⟩⟩
    · refine w_const i7_fiberEntry_12 ?_
      refine w_iret i7_fiberEntry_15 (Or.inl rfl) ⟨Nat.le_refl _, Nat.le_refl _⟩ ?_
      first
      | exact ⟨rfl, _, rfl, h, Or.inl ⟨by omega, rfl⟩⟩
      | exact ⟨rfl, _, rfl, h, Or.inl ⟨by rcases hv0 with g | g <;> omega, rfl⟩⟩
