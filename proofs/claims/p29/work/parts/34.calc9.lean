theorem CI.hi {S : Sx} {I I' : IE} {F F' : FE} (h : CI S I F) (h0 : ∀ a k, a ≤ 53 → I' a k = I a k) (h1 : ∀ a, a ≤ 53 → F' a = F a) : CI S I' F' := by
  obtain ⟨hS, hH, hT, hB, hP⟩ := h
  exact ⟨hS.fr (fun k => h0 1 k (by decide)) (fun a ha => h1 a (by omega)), hH.fr (fun a k ha => h0 a k (by omega)) (fun a ha => h1 a (by omega)), hT.fr (h0 39 0 (by decide)) (h1 41 (by decide)), hB.fr (fun k => h0 42 k (by decide)) (h1 43 (by decide)), hP.fr (fun k => h0 50 k (by decide)) (h0 0 9 (by decide)) (h1 53 (by decide))⟩
theorem idxP_uniq {f : Int → Int} {m x r r' : Int} (hs : ∀ i j, 0 ≤ i ∧ i < j ∧ j < m → f i < f j) (h : idxP f m x r) (g : idxP f m x r') : r = r' := by
  rcases h with ⟨h1, h2, h3⟩ | ⟨h1, h2⟩
  · rcases g with ⟨g1, g2, g3⟩ | ⟨g1, g2⟩
    · rcases Int.lt_trichotomy r r' with a | a | a
      · have := hs r r' ⟨h1, a, g2⟩; omega
      · exact a
      · have := hs r' r ⟨g1, a, h2⟩; omega
    · exact absurd h3 (g2 r ⟨h1, h2⟩)
  · rcases g with ⟨g1, g2, g3⟩ | ⟨g1, g2⟩
    · exact absurd g3 (h2 r' ⟨g1, g2⟩)
    · omega
theorem idxP_ex (f : Int → Int) (m x : Int) : ∃ r, idxP f m x r := by
  by_cases h : ∃ i, 0 ≤ i ∧ i < m ∧ f i = x
  · obtain ⟨i, a, b, c⟩ := h
    exact ⟨i, Or.inl ⟨a, b, c⟩⟩
  · exact ⟨-1, Or.inr ⟨rfl, fun i hi e => h ⟨i, hi.1, hi.2, e⟩⟩⟩
theorem idxP_ext {f g : Int → Int} {m x r : Int} (e : ∀ i, 0 ≤ i ∧ i < m → f i = g i) (h : idxP f m x r) : idxP g m x r := by
  rcases h with ⟨h1, h2, h3⟩ | ⟨h1, h2⟩
  · exact Or.inl ⟨h1, h2, by rw [← e r ⟨h1, h2⟩]; exact h3⟩
  · exact Or.inr ⟨h1, fun i hi => by rw [← e i hi]; exact h2 i hi⟩
theorem shf_ext {n : Int} {f g : Int → Int} (e : ∀ i, 0 ≤ i ∧ i < n → f i = g i) : cd4 (shf n f) = cd4 (shf n g) := by
  have k : ∀ i, 0 ≤ i ∧ i < 4 → shf n f i = shf n g i := fun i hi => by
    unfold shf
    by_cases c : 4 - n ≤ i
    · rw [if_pos c, if_pos c]; exact e _ (by omega)
    · rw [if_neg c, if_neg c]
  unfold cd4 pre3
  rw [k 0 (by decide), k 1 (by decide), k 2 (by decide), k 3 (by decide)]
theorem NasP_ex (f : Int → Int) (m n : Int) (v : Int → Int) : ∃ r, NasP f m n v r := by
  by_cases h : ∃ i, 0 ≤ i ∧ i < n ∧ v i < 0
  · exact ⟨-1, Or.inl ⟨rfl, h⟩⟩
  · obtain ⟨r, hr⟩ := idxP_ex f m (cd4 (shf n v))
    exact ⟨r, Or.inr ⟨fun i hi => Classical.byContradiction fun c => h ⟨i, hi.1, hi.2, by omega⟩, hr⟩⟩
theorem NasP_uniq {f : Int → Int} {m n : Int} {v : Int → Int} {r r' : Int} (hs : ∀ i j, 0 ≤ i ∧ i < j ∧ j < m → f i < f j) (h : NasP f m n v r) (g : NasP f m n v r') : r = r' := by
  rcases h with ⟨h1, i, h2, h3, h4⟩ | ⟨h1, h2⟩
  · rcases g with ⟨g1, -⟩ | ⟨g1, g2⟩
    · omega
    · have := g1 i ⟨h2, h3⟩; omega
  · rcases g with ⟨g1, i, g2, g3, g4⟩ | ⟨g1, g2⟩
    · have := h1 i ⟨g2, g3⟩; omega
    · exact idxP_uniq hs h2 g2
theorem NasP_ext {f g : Int → Int} {m n : Int} {v w : Int → Int} {r : Int} (e : ∀ i, 0 ≤ i ∧ i < m → f i = g i) (e2 : ∀ i, 0 ≤ i ∧ i < n → v i = w i) (h : NasP f m n v r) : NasP g m n w r := by
  rcases h with ⟨h1, i, h2, h3, h4⟩ | ⟨h1, h2⟩
  · exact Or.inl ⟨h1, i, h2, h3, by rw [← e2 i ⟨h2, h3⟩]; exact h4⟩
  · exact Or.inr ⟨fun i hi => by rw [← e2 i hi]; exact h1 i hi, by rw [← shf_ext e2]; exact idxP_ext e h2⟩
/-- the steps in the fiber of y; the number of z in it; the search from s -/
noncomputable def nxo (M : Int → Int) (n : Int) (y : Int → Int) : Int → Int → Int := fun q c => Classical.epsilon (NasP (fbf M n y) (fbm M n y) n (fun i => fbY M n y q (i + (4 - n)) + cvec (gE M n) c i))
noncomputable def ixo (M : Int → Int) (n : Int) (y z : Int → Int) : Int := Classical.epsilon (idxP (fbf M n y) (fbm M n y) (cd4 (shf n z)))
def acI (A : Nat → Int) : Int → Int := fun e => A e.toNat
noncomputable def stp (M : Int → Int) (n : Int) (y : Int → Int) (A : Nat → Int) (s t : Int) : Int := if (0 ≤ s ∧ s < ((fbm M n y).toNat : Int)) ∧ 0 ≤ t ∧ t < ((fbm M n y).toNat : Int) then bfrom (nxo M n y) (acI A) (2 * (gk M n).toNat) (fbm M n y).toNat (fun _ => -1) s t else -1
noncomputable def ncl (M : Int → Int) (n : Int) (y : Int → Int) (A : Nat → Int) : Int := (bcls (nxo M n y) (acI A) (2 * (gk M n).toNat) (fbm M n y).toNat (fbm M n y).toNat).1
/-- the positive (s = 1) or the negative part of an element -/
noncomputable def gp (M : Int → Int) (n e s : Int) : Int → Int := fun i => if 0 ≤ s * gE M n e i then s * gE M n e i else 0
/-- its two parts are joined -/
noncomputable def Jn (M : Int → Int) (n : Int) (A : Nat → Int) (e : Int) : Prop := 0 ≤ stp M n (gp M n e 1) A (ixo M n (gp M n e 1) (gp M n e 1)) (ixo M n (gp M n e 1) (gp M n e (-1)))
theorem ixo_ok (M : Int → Int) (n : Int) (y z : Int → Int) : idxP (fbf M n y) (fbm M n y) (cd4 (shf n z)) (ixo M n y z) := Classical.epsilon_spec (idxP_ex _ _ _)
theorem nxo_ok (M : Int → Int) (n : Int) (y : Int → Int) (q c : Int) : NasP (fbf M n y) (fbm M n y) n (fun i => fbY M n y q (i + (4 - n)) + cvec (gE M n) c i) (nxo M n y q c) := Classical.epsilon_spec (p := NasP (fbf M n y) (fbm M n y) n (fun i => fbY M n y q (i + (4 - n)) + cvec (gE M n) c i)) (NasP_ex _ _ _ _)
theorem fbp_ext {M : Int → Int} {n : Int} {y z : Int → Int} (hn : 0 ≤ n) (e : ∀ j, 0 ≤ j ∧ j < n → y j = z j) : FibP M n y = FibP M n z ∧ fbp M n y = fbp M n z := by
  have e0 := dt_ext (M := M) (r := 0) n.toNat (fun j hj => e j (by omega))
  have e1 := dt_ext (M := M) (r := 1) n.toNat (fun j hj => e j (by omega))
  have k : FibP M n y = FibP M n z := by
    funext p
    unfold FibP
    rw [e0, e1]
  exact ⟨k, by unfold fbp; rw [k]⟩
theorem CI.W {S : Sx} {I I' : IE} {F F' : FE} (h : CI S I F) (hf : Wfr I I' F F') : CI S I' F' := h.hi (fun a k ha => hf.1 a k (by omega)) (fun a ha => hf.2 a (by omega) (by omega))
/-- the walk over the fiber of y at the place b -/
theorem fib_walk {S : Sx} {I : IE} {F : FE} {b N : Nat} {y : Int → Int} (h : CI S I F) (hF : FbIs b N (fbm (gM S.1) (gC S.1) y).toNat (gC S.1) (fbY (gM S.1) (gC S.1) y) I F) (hf : ∀ i, 0 ≤ i ∧ i < fbm (gM S.1) (gC S.1) y → F (b + 3) i = fbf (gM S.1) (gC S.1) y i) (hP : FibP (gM S.1) (gC S.1) y (fbm (gM S.1) (gC S.1) y, fbf (gM S.1) (gC S.1) y)) :
    ∃ k : Nat, k = (gk (gM S.1) (gC S.1)).toNat ∧ I 42 0 = (k : Int) ∧ k ≤ 15 ∧ (0 ≤ I 1 5 ∧ I 1 5 < 65536) ∧ (∀ e : Nat, e < k → acI (gA S.1) e = bt (I 1 5) e) ∧ (∀ e i, 0 ≤ e ∧ e < (k : Int) → 0 ≤ i ∧ i < gC S.1 → -10 ≤ en F e i ∧ en F e i ≤ 10) ∧ NxP b (fbm (gM S.1) (gC S.1) y).toNat (gC S.1) k (fbY (gM S.1) (gC S.1) y) F (nxo (gM S.1) (gC S.1) y) ∧ ∀ q c : Int, 0 ≤ q ∧ q < (fbm (gM S.1) (gC S.1) y).toNat → 0 ≤ c ∧ c < (2 * k : Nat) → nxo (gM S.1) (gC S.1) y q c < (fbm (gM S.1) (gC S.1) y).toNat := by
  obtain ⟨v, s1, s2, s3, s4, s5, s6, s7⟩ := id h.1
  have hB := h.2.2.2.1
  have hB1 := hB.2.1
  obtain ⟨q1, q3, bb, b4, b5⟩ := CB.E v.2.1 hB
  have hn := v.2.1
  have fz := hP.1
  have fz' : 0 ≤ fbm (gM S.1) (gC S.1) y := fz
  have b9 := b4.b9
  refine ⟨(gk (gM S.1) (gC S.1)).toNat, rfl, by omega, by omega, s6, fun e he => ?_, fun e i he hi => ?_, fun q c w hq hc hw => ?_, fun q c hq hc => ?_⟩
  · unfold acI
    rw [s7 e (by omega)]
    rfl
  · have := (b5.1 e (by omega)).2.1 i (by omega)
    omega
  · have e1 : ((fbm (gM S.1) (gC S.1) y).toNat : Int) = fbm (gM S.1) (gC S.1) y := by omega
    rw [e1] at hw hq
    refine NasP_uniq hP.2.1 (NasP_ext hf (fun i hi => ?_) hw) (nxo_ok _ _ _ _ _)
    rw [cvec_ext (k := I 42 0) (fun e he => q3 e he i (by omega)) (by omega)]
  · have := (nxo_ok (gM S.1) (gC S.1) y q c).lt fz
    omega
theorem l1_no2 {d n0 : Nat} {Q : PQ} {I : IE} {F : FE} {b N p Np : Nat} (hB : FbAt b N) (hn : 2 ≤ I b 1 ∧ I b 1 ≤ 4) (hp : shX[p]? = some (.inl Np)) (hNp : 4 ≤ Np) (hv : ∀ j, 0 ≤ j ∧ j < I b 1 → 0 ≤ F p j ∧ F p j ≤ 127)
    (K : ∀ x, WS m1_numberOf d 0 0 n0 Q 0 0 27 [lr b, lr p, li (pkn (F p) (I b 1).toNat), x] [] shX I F) :
    ∀ (m k : Nat), (k + m : Int) = I b 1 → WS m1_numberOf d 0 0 n0 Q 0 0 4 [lr b, lr p, li (pkn (F p) k), li k] [] shX I F := by
  intro m
  induction m with
  | zero =>
    intro k hk
    obtain rfl : k = (I b 1).toNat := by omega
    refine w_iload i1_numberOf_4 rfl ?_
    refine w_aload i1_numberOf_5 rfl ?_
    refine w_get i1_numberOf_6 hB.1 rfl ?_
    refine w_icmpge i1_numberOf_9 (fun h9 => ?_) (fun h_ => absurd h_ (by omega))
    exact K _
  | succ m ih =>
    intro k hk
    have hb := pkn_b (f := F p) k (fun j hj => hv j (by omega))
    have hvk := hv k (by omega)
    have hp3 : (128 : Int) ^ k ≤ 128 ^ 3 := by
      have := ipow_le (b := 128) (by decide) k (3 - k)
      rw [show k + (3 - k) = 3 by omega] at this
      exact this
    have esh : borI (shlI (pkn (F p) k) 7) (F p k) = pkn (F p) k * 2 ^ 7 + F p k := shor (k := 7) hb.1 (by decide) (by omega) (by omega)
    have e2 : pkn (F p) k * 2 ^ 7 + F p k = pkn (F p) (k + 1) := rfl
    refine w_iload i1_numberOf_4 rfl ?_
    refine w_aload i1_numberOf_5 rfl ?_
    refine w_get i1_numberOf_6 hB.1 rfl ?_
    refine w_icmpge i1_numberOf_9 (fun h_ => absurd h_ (by omega)) (fun h9 => ?_)
    refine w_iload i1_numberOf_12 rfl ?_
    refine w_const i1_numberOf_13 ?_
    refine w_ishl i1_numberOf_15 ?_
    refine w_aload i1_numberOf_16 rfl ?_
    refine w_iload i1_numberOf_17 rfl ?_
    refine w_iald i1_numberOf_18 hp (by omega) ?_
    refine w_ior i1_numberOf_19 ?_
    rw [esh, e2]
    refine w_is2 i1_numberOf_20 ?_
    refine w_ii3 i1_numberOf_21 (by omega) ?_
    refine w_goto i1_numberOf_24 ?_
    exact ih (k + 1) (by omega)
theorem s1_numberOf2 {d : Nat} {I : IE} {F : FE} {b N p Np : Nat} (hB : FbAt b N) (hd : 1 ≤ d) (hN2 : N = 2048 ∨ N = 32) (hm : 0 ≤ I b 0 ∧ I b 0 ≤ N) (hn : 2 ≤ I b 1 ∧ I b 1 ≤ 4) (hs : ∀ i j, 0 ≤ i ∧ i < j ∧ j < I b 0 → F (b + 3) i < F (b + 3) j) (hp : shX[p]? = some (.inl Np)) (hNp : 4 ≤ Np) (hv : ∀ j, 0 ≤ j ∧ j < I b 1 → 0 ≤ F p j ∧ F p j ≤ 127) :
    MP m1_numberOf d shX [rv b, rv p] I F (idxP (F (b + 3)) (I b 0) (cd4 (shf (I b 1) (F p)))) := by
  refine MS_of (ls := [lr b, lr p, lu, lu]) f1_numberOf rfl rfl (Nat.le_of_ble_eq_true rfl) ?_
  refine w_const i1_numberOf_0 ?_
  refine w_is2 i1_numberOf_1 ?_
  refine w_const i1_numberOf_2 ?_
  refine w_is3 i1_numberOf_3 ?_
  refine l1_no2 hB hn hp hNp hv (fun x => ?_) (I b 1).toNat 0 (by omega)
  refine w_aload i1_numberOf_27 rfl ?_
  refine w_iload i1_numberOf_28 rfl ?_
  rw [pk_cd4 hn]
  refine w_cVP i1_numberOf_29 f1_numberOfPacked v1_numberOfPacked (s1_numberOfPacked hB hN2 hm hs) rfl hB.1 (by decide) rfl rfl (Nat.le_of_ble_eq_true rfl) (by omega) (fun v hv_ => ?_)
  refine w_iret i1_numberOf_32 (Or.inl rfl) ⟨Nat.le_refl _, Nat.le_refl _⟩ ?_
  exact ⟨rfl, _, rfl, hv_, rfl, rfl⟩
theorem s7_classes {d : Nat} {I : IE} {F : FE} {S : Sx} (hcap : CapP) (hd : 6 ≤ d) (h : CI S I F) : MB m7_classes d shX [rv 0] I F (fun v I' F' => CI S I' F' ∧ ((¬ Pos (gM S.1) (gC S.1) ∧ v = -1002) ∨ Pos (gM S.1) (gC S.1) ∧ v = ncl (gM S.1) (gC S.1) (gY S.1) (gA S.1))) := by
  obtain ⟨v, s1, s2, s3, s4⟩ := id h.1
  have hn := v.2.1
  refine MS_of (ls := [lr 0]) f7_classes rfl rfl (Nat.le_of_ble_eq_true rfl) ?_
  refine w_aload i7_classes_0 rfl ?_
  refine w_getr i7_classes_1 rfl rfl ?_
  refine w_cVP i7_classes_4 f5_hasNoZeroColumn v5_hasNoZeroColumn (s5_hasNoZeroColumn (by omega) (by omega)) rfl rfl (by decide) rfl rfl (Nat.le_of_ble_eq_true rfl) (by omega) (fun v1 hv1 => ?_)
  rw [s2, s3] at hv1
  refine w_ifne i7_classes_7 (fun h7 => ?_) (fun h7 => ?_)
  · refine w_aload i7_classes_14 rfl ?_
    refine w_cVU i7_classes_15 f7_buildPointFiber v7_buildPointFiber (s7_buildPointFiber hcap (by omega) h (by rcases hv1 with ⟨-, a⟩ | ⟨a, -⟩; exact a; omega)) rfl rfl (by decide) rfl rfl (Nat.le_of_ble_eq_true rfl) (by omega) (fun I1 F1 hq => ?_)
    obtain ⟨fi, f0, f1, f2⟩ := hq.1.fib hq.2
    obtain ⟨k, k0, k1, k2, k3, k4, k5, k6, k7⟩ := fib_walk hq.1 fi f1 f2
    refine w_aload i7_classes_18 rfl ?_
    refine w_getr i7_classes_19 rfl rfl ?_
    refine w_aload i7_classes_22 rfl ?_
    refine w_getr i7_classes_23 rfl rfl ?_
    refine w_aload i7_classes_26 rfl ?_
    refine w_getr i7_classes_27 rfl rfl ?_
    refine w_aload i7_classes_30 rfl ?_
    refine w_getr i7_classes_31 rfl rfl ?_
    refine w_cVB i7_classes_34 f6_countClasses v6_countClasses (s6_countClasses (by omega) fi k1 k2 k3 k4 k5 k6 k7) rfl rfl (by decide) rfl rfl (Nat.le_of_ble_eq_true rfl) (by omega) (fun w I2 F2 hw => ?_)
    refine w_iret i7_classes_37 (Or.inl rfl) ⟨Nat.le_refl _, Nat.le_refl _⟩ ?_
    exact ⟨rfl, _, rfl, hq.1.W hw.1, Or.inr ⟨by rcases hv1 with ⟨-, a⟩ | ⟨a, -⟩; exact a; omega, by rw [hw.2, k0]; rfl⟩⟩
  · refine w_const i7_classes_10 ?_
    refine w_iret i7_classes_13 (Or.inl rfl) ⟨Nat.le_refl _, Nat.le_refl _⟩ ?_
    exact ⟨rfl, _, rfl, h, Or.inl ⟨fun g => by rcases hv1 with ⟨a, -⟩ | ⟨-, a⟩; omega; exact a g, rfl⟩⟩
theorem s7_distance {d : Nat} {I : IE} {F : FE} {S : Sx} {x : Int} (hcap : CapP) (hd : 6 ≤ d) (h : CI S I F) : MB m7_distance d shX [rv 0, iv x] I F (fun v I' F' => CI S I' F' ∧ ((x < 0 ∧ v = -1001) ∨ 0 ≤ x ∧ ((¬ Pos (gM S.1) (gC S.1) ∧ v = -1002) ∨ Pos (gM S.1) (gC S.1) ∧ v = if stp (gM S.1) (gC S.1) (gY S.1) (gA S.1) (ixo (gM S.1) (gC S.1) (gY S.1) (gY S.1)) x < 0 then -1009 else stp (gM S.1) (gC S.1) (gY S.1) (gA S.1) (ixo (gM S.1) (gC S.1) (gY S.1) (gY S.1)) x))) := by
  obtain ⟨v, s1, s2, s3, s4, s5⟩ := id h.1
  have hn := v.2.1
  have hy : ∀ j, 0 ≤ gY S.1 j ∧ gY S.1 j ≤ 5 := v.2.2.2.2.2.2.1
  refine MS_of (ls := [lr 0, li x, lu, lu]) f7_distance rfl rfl (Nat.le_of_ble_eq_true rfl) ?_
  refine w_iload i7_distance_0 rfl ?_
  refine w_ifge i7_distance_1 (fun h1 => ?_) (fun h1 => ?_)
  · refine w_aload i7_distance_8 rfl ?_
    refine w_getr i7_distance_9 rfl rfl ?_
    refine w_cVP i7_distance_12 f5_hasNoZeroColumn v5_hasNoZeroColumn (s5_hasNoZeroColumn (by omega) (by omega)) rfl rfl (by decide) rfl rfl (Nat.le_of_ble_eq_true rfl) (by omega) (fun v1 hv1 => ?_)
    rw [s2, s3] at hv1
    refine w_ifne i7_distance_15 (fun h15 => ?_) (fun h15 => ?_)
    · refine w_aload i7_distance_22 rfl ?_
      refine w_cVU i7_distance_23 f7_buildPointFiber v7_buildPointFiber (s7_buildPointFiber hcap (by omega) h (by rcases hv1 with ⟨-, a⟩ | ⟨a, -⟩; exact a; omega)) rfl rfl (by decide) rfl rfl (Nat.le_of_ble_eq_true rfl) (by omega) (fun I1 F1 hq => ?_)
      have hPo : Pos (gM S.1) (gC S.1) := by rcases hv1 with ⟨-, a⟩ | ⟨a, -⟩; exact a; omega
      obtain ⟨fi, f0, f1, f2⟩ := hq.1.fib hq.2
      obtain ⟨k, k0, k1, k2, k3, k4, k5, k6, k7⟩ := fib_walk hq.1 fi f1 f2
      have fz : 0 ≤ fbm (gM S.1) (gC S.1) (gY S.1) := f2.1
      have f4 : F1 4 = gY S.1 := hq.1.1.2.2.2.2.2.1
      have fi1 := fi.2.2.2.2.1
      refine w_aload i7_distance_26 rfl ?_
      refine w_getr i7_distance_27 rfl rfl ?_
      refine w_aload i7_distance_30 rfl ?_
      refine w_getr i7_distance_31 rfl rfl ?_
      refine w_getr i7_distance_34 rfl rfl ?_
      refine w_cVP i7_distance_37 f1_numberOf v1_numberOf (s1_numberOf (b := 50) (N := 2048) (p := 4) (Np := 4) fb50 (by omega) (Or.inl rfl) (by rw [f0]; have := fi.2.2.1; omega) (by rw [fi1]; exact hn) (fun i j hij => fi.2.2.2.2.2.2.1 i j (by omega)) rfl (by decide) (fun j _ => by rw [f4]; have := hy j; omega)) rfl rfl (by decide) rfl rfl (Nat.le_of_ble_eq_true rfl) (by omega) (fun s hs => ?_)
      rw [f0, fi1, f4] at hs
      have es : s = ixo (gM S.1) (gC S.1) (gY S.1) (gY S.1) := idxP_uniq f2.2.1 (idxP_ext f1 hs) (ixo_ok _ _ _ _)
      refine w_is2 i7_distance_40 ?_
      refine w_aload i7_distance_41 rfl ?_
      refine w_getr i7_distance_42 rfl rfl ?_
      refine w_aload i7_distance_45 rfl ?_
      refine w_getr i7_distance_46 rfl rfl ?_
      refine w_aload i7_distance_49 rfl ?_
      refine w_getr i7_distance_50 rfl rfl ?_
      refine w_aload i7_distance_53 rfl ?_
      refine w_getr i7_distance_54 rfl rfl ?_
      refine w_iload i7_distance_57 rfl ?_
      refine w_iload i7_distance_58 rfl ?_
      refine w_cVB i7_distance_59 f6_countSteps v6_countSteps (s6_countSteps (by omega) fi k1 k2 k3 k4 k5 k6 k7) rfl rfl (by decide) rfl rfl (Nat.le_of_ble_eq_true rfl) (by omega) (fun w I2 F2 hw => ?_)
      have ew : w = stp (gM S.1) (gC S.1) (gY S.1) (gA S.1) (ixo (gM S.1) (gC S.1) (gY S.1) (gY S.1)) x := by rw [hw.2, k0, es]; rfl
      refine w_is3 i7_distance_62 ?_
      refine w_iload i7_distance_63 rfl ?_
      refine w_ifge i7_distance_64 (fun h64 => ?_) (fun h64 => ?_)
      · refine w_iload i7_distance_73 rfl ?_
        refine w_iret i7_distance_74 (Or.inl rfl) ⟨Nat.le_refl _, Nat.le_refl _⟩ ?_
        refine ⟨rfl, _, rfl, hq.1.W hw.1, Or.inr ⟨by omega, Or.inr ⟨hPo, ?_⟩⟩⟩
        rw [← ew]
        first
          | rw [if_neg (by omega)]
          | rw [if_pos (by omega)]
      · refine w_const i7_distance_67 ?_
        refine w_goto i7_distance_70 ?_
        refine w_iret i7_distance_74 (Or.inl rfl) ⟨Nat.le_refl _, Nat.le_refl _⟩ ?_
        refine ⟨rfl, _, rfl, hq.1.W hw.1, Or.inr ⟨by omega, Or.inr ⟨hPo, ?_⟩⟩⟩
        rw [← ew]
        first
          | rw [if_neg (by omega)]
          | rw [if_pos (by omega)]
    · refine w_const i7_distance_18 ?_
      refine w_iret i7_distance_21 (Or.inl rfl) ⟨Nat.le_refl _, Nat.le_refl _⟩ ?_
      exact ⟨rfl, _, rfl, h, Or.inr ⟨by omega, Or.inl ⟨fun g => by rcases hv1 with ⟨a, -⟩ | ⟨-, a⟩; omega; exact a g, rfl⟩⟩⟩
  · refine w_const i7_distance_4 ?_
    refine w_iret i7_distance_7 (Or.inl rfl) ⟨Nat.le_refl _, Nat.le_refl _⟩ ?_
    exact ⟨rfl, _, rfl, h, Or.inl ⟨by omega, rfl⟩⟩
