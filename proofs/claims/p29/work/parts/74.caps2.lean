theorem kc_asum {u v : Int → Int} (hu : ∀ j, 0 ≤ j ∧ j < 4 → -9 ≤ u j ∧ u j ≤ 9) (hv : ∀ j, 0 ≤ j ∧ j < 4 → -9 ≤ v j ∧ v j ≤ 9) (h : asum u 4 < asum v 4) : kc u < kc v := by
  have := kc_b hu
  have := kc_b hv
  unfold kc; omega
theorem gm_of {M : Int → Int} {n b k : Int} {E : Int → Int → Int} {e : Int} (hn : 0 ≤ n ∧ n ≤ 4) (hb : b ≤ 9) (hE : ∀ e, 0 ≤ e ∧ e < k → Cnd M n b (E e)) (h2 : ∀ e e', 0 ≤ e ∧ e < e' ∧ e' < k → kc (E e) < kc (E e') ∧ ¬ cf n (E e) (E e') ∧ ¬ cf n (ng (E e)) (E e')) (he : 0 ≤ e ∧ e < k)
    (h3 : ∀ v, Cnd M n b v → asum v 4 ≤ asum (E e) 4 → (asum v 4 = asum (E e) 4 → ∀ j, 0 ≤ j ∧ j < 4 → v j = E e j) → ∃ e', 0 ≤ e' ∧ e' < k ∧ (cf n (E e') v ∨ cf n (ng (E e')) v)) : Gmin M n (E e) := by
  have hC := hE e he
  refine ⟨hC.1, ?_, fun u hu hz hc => ?_⟩
  · obtain ⟨j, j0, j1, _, j3⟩ := hC.2.2.1
    exact ⟨j, j0, j1, by omega⟩
  have key : ∀ v, Cnd M n b v → (cf n v (E e) ∨ cf n (ng v) (E e)) → ∀ j, 0 ≤ j ∧ j < 4 → v j = E e j := fun v hv hvc => by
    obtain ⟨l1, l2⟩ := hv.le hn hC hvc
    obtain ⟨e', e0, e1, h⟩ := h3 v hv l1 l2
    have ht := cf_tr h hvc
    obtain ⟨l3, l4⟩ := (hE e' ⟨e0, e1⟩).le hn hC ht
    rcases Int.lt_trichotomy e' e with hl | hl | hl
    · have := (h2 e' e ⟨e0, hl, he.2⟩).2
      rcases ht with g | g
      · exact absurd g this.1
      · exact absurd g this.2
    · subst hl
      obtain ⟨l5, _⟩ := hC.le hn hv h
      exact l2 (by omega)
    · have hk := h2 e e' ⟨he.1, hl, e1⟩
      have := kc_lt (hC.b9 hb) ((hE e' ⟨e0, e1⟩).b9 hb) hk.1
      have := l4 (by omega)
      exact absurd (fun q hq => by rw [this q (by omega)]; exact c1_rf _) hk.2.1
  have hz' : nz n (trn n u) := by
    obtain ⟨j, j0, j1, j2⟩ := hz
    exact ⟨j, j0, j1, by rw [trn_in ⟨j0, j1⟩]; exact j2⟩
  have hk' : KerF M n (trn n u) := hu.ext (fun j hj => (trn_in hj).symm)
  have hbd : ∀ j, 0 ≤ j ∧ j < n → -b ≤ u j ∧ u j ≤ b := fun j hj => by
    have := hC.2.1 j hj
    have := hc j hj
    unfold c1 at this; omega
  have hout : ∀ j, n ≤ j ∧ j < 4 → trn n u j = 0 := fun j hj => by unfold trn; rw [if_neg (by omega)]
  rcases lead_or hn.1 hz' with hl | hl
  · have := key (trn n u) ⟨hk', fun j hj => by rw [trn_in hj]; exact hbd j hj, hl, hout⟩ (.inl (fun j hj => by rw [trn_in hj]; exact hc j hj))
    exact fun j hj => by rw [← this j (by omega), trn_in hj]
  · exfalso
    have := key (ng (trn n u)) ⟨hk'.neg, fun j hj => by unfold ng; rw [trn_in hj]; have := hbd j hj; omega, hl, fun j hj => by unfold ng; rw [hout j hj]; rfl⟩ (.inr (by rw [ng_ng]; exact fun j hj => by rw [trn_in hj]; exact hc j hj))
    obtain ⟨j, j0, j1, _, j3⟩ := hC.2.2.1
    have h1 := this j (by omega)
    have h2 := hc j ⟨j0, j1⟩
    unfold ng at h1
    rw [trn_in ⟨j0, j1⟩] at h1
    unfold c1 at h2; omega
theorem Bsp.gmin {M : Int → Int} {n b k : Int} {E : Int → Int → Int} (hn : 0 ≤ n ∧ n ≤ 4) (hb : b ≤ 9) (h : Bsp M n b k E) : ∀ e, 0 ≤ e ∧ e < k → Gmin M n (E e) := fun e he => gm_of hn hb h.1 h.2.1 he (fun v hv _ _ => h.2.2 v hv)
theorem capB : CapB := by
  intro M n hn hM r b f m k E hP hs hmem hdn hk h
  have b9 := (hP.b9).2.2
  have hn' : 0 ≤ n ∧ n ≤ 4 := ⟨by omega, hn.2⟩
  have hE : ∀ e, 0 ≤ e ∧ e < k → Cnd M n b (E e) := fun e he => (h.1 e he).1
  have gm : ∀ e, 0 ≤ e ∧ e < k → Gmin M n (E e) := fun e he => gm_of hn' b9 hE h.2.1 he (fun v hv l1 l2 => by
    obtain ⟨i, i0, i1, i2⟩ := (h.1 e he).2
    have hle : kc v ≤ f i := by
      rcases Int.lt_or_eq_of_le l1 with g | g
      · rw [i2]; exact Int.le_of_lt (kc_asum (hv.b9 b9) ((hE e he).b9 b9) g)
      · rw [i2, kc_ext (l2 g)]; exact Int.le_refl _
    obtain ⟨j, j0, j1, j2⟩ := hdn v hv i ⟨i0, i1⟩ hle
    exact h.2.2 j v ⟨j0, j1⟩ hv j2)
  have := capG M n hn hM k.toNat (fun i => E i) (fun i hi => ⟨gm i (by omega), (hE i (by omega)).2.2.1⟩) (fun i j hij hj e => by
    have := (h.2.1 i j (by omega)).2.1
    exact this (fun q hq => by rw [e q hq]; exact c1_rf _))
  omega
-- below each vector of the kernel lies a minimal one
theorem desc {M : Int → Int} {n : Int} (hn : 0 ≤ n) : ∀ (N : Nat) (r : Int → Int), KerF M n r → nz n r → asum r n.toNat ≤ N → ∃ u, Gmin M n u ∧ cf n u r := by
  intro N
  induction N with
  | zero =>
    intro r _ hz ha
    obtain ⟨j, j0, j1, j2⟩ := hz
    have := asum_pos (f := r) n.toNat (j := j) (by omega) j2
    omega
  | succ N ih =>
    intro r hr hz ha
    by_cases hm : Gmin M n r
    · exact ⟨r, hm, fun j _ => c1_rf _⟩
    · have : ∃ u, KerF M n u ∧ nz n u ∧ cf n u r ∧ ¬ ∀ j, 0 ≤ j ∧ j < n → u j = r j := Classical.byContradiction fun hx => hm ⟨hr, hz, fun u h1 h2 h3 => Classical.byContradiction fun h4 => hx ⟨u, h1, h2, h3, h4⟩⟩
      obtain ⟨u, h1, h2, h3, h4⟩ := this
      obtain ⟨l1, l2⟩ := asum_le (u := u) (v := r) n.toNat (fun j hj => h3 j (by omega))
      have : asum u n.toNat ≠ asum r n.toNat := fun e => h4 (fun j hj => l2 e j (by omega))
      obtain ⟨w, w1, w2⟩ := ih u h1 h2 (by omega)
      exact ⟨w, w1, fun j hj => c1_tr (w2 j hj) (h3 j hj)⟩
theorem hex {M : Int → Int} {n : Int} (hn : 2 ≤ n ∧ n ≤ 4) (hM : ∀ j, 0 ≤ M j ∧ M j ≤ 3) (hB : Bas M n (gk M n, grk M n, gE M n)) : Hex M n := by
  intro r hr hz
  obtain ⟨_, b, hP, hS⟩ := hB
  obtain ⟨u, hu, huc⟩ := desc (by omega) (asum r n.toNat).toNat r hr hz (by have := @asum_0 r n.toNat; omega)
  have bd := bndG M n (grk M n) b u hn hM hP hu
  have hz' : nz n (trn n u) := by
    obtain ⟨j, j0, j1, j2⟩ := hu.2.1
    exact ⟨j, j0, j1, by rw [trn_in ⟨j0, j1⟩]; exact j2⟩
  have hk' : KerF M n (trn n u) := hu.1.ext (fun j hj => (trn_in hj).symm)
  have hout : ∀ j, n ≤ j ∧ j < 4 → trn n u j = 0 := fun j hj => by unfold trn; rw [if_neg (by omega)]
  have htr : cf n (trn n u) r := fun j hj => by rw [trn_in hj]; exact huc j hj
  have fin : ∀ e, 0 ≤ e ∧ e < gk M n → (cf n (gE M n e) r ∨ cf n (ng (gE M n e)) r) → ∃ c, (0 ≤ c ∧ c < 2 * gk M n) ∧ cf n (cvec (gE M n) c) r := fun e he h => by
    rcases h with h | h
    · exact ⟨2 * e, by omega, by unfold cvec; rw [if_pos (by omega), show 2 * e / 2 = e by omega]; exact h⟩
    · exact ⟨2 * e + 1, by omega, by unfold cvec; rw [if_neg (by omega), show (2 * e + 1) / 2 = e by omega]; exact h⟩
  rcases lead_or (by omega) hz' with hl | hl
  · obtain ⟨e, e0, e1, h⟩ := hS.2.2 (trn n u) ⟨hk', fun j hj => by rw [trn_in hj]; exact bd j hj, hl, hout⟩
    exact fin e ⟨e0, e1⟩ (cf_tr h (.inl htr))
  · obtain ⟨e, e0, e1, h⟩ := hS.2.2 (ng (trn n u)) ⟨hk'.neg, fun j hj => by unfold ng; rw [trn_in hj]; have := bd j hj; omega, hl, fun j hj => by unfold ng; rw [hout j hj]; rfl⟩
    exact fin e ⟨e0, e1⟩ (cf_tr h (.inr (by rw [ng_ng]; exact htr)))
theorem capX {M : Int → Int} {n s t : Int} {N S T : Nat} (hM : ∀ j, 0 ≤ M j ∧ M j ≤ 3) (hs : s = S) (ht : t = T) (hA : AtM (F4q (ccN M n 0 / 4) (ccN M n 0 % 4) (ccN M n 1 / 4) (ccN M n 1 % 4) (ccN M n 2 / 4) (ccN M n 2 % 4) (ccN M n 3 / 4) (ccN M n 3 % 4) S T) N) (m : Int) (f : Int → Int) (hf : ∀ i j, 0 ≤ i ∧ i < j ∧ j < m → f i < f j) (hy : ∀ i, 0 ≤ i ∧ i < m → ∃ y, FS (uu M n) (ul M n) s t y ∧ f i = cd4 y) : m ≤ N := by
  have : ∀ i : Nat, ∃ y, (i : Int) < m → FS (uu M n) (ul M n) s t y ∧ f i = cd4 y := fun i => by
    by_cases hi : (i : Int) < m
    · obtain ⟨y, hy⟩ := hy i (by omega)
      exact ⟨y, fun _ => hy⟩
    · exact ⟨fun _ => 0, fun h => absurd h hi⟩
  obtain ⟨Y, hY⟩ := Classical.skolem.1 this
  have := hA.seq (fun i => ((Y i 0).toNat, (Y i 1).toNat, (Y i 2).toNat, (Y i 3).toNat)) m.toNat (fun i hi => ?_) (fun i j hij hj e => ?_)
  · omega
  · obtain ⟨⟨h1, h2, h3⟩, _⟩ := hY i (by omega)
    have sl : ∀ j : Int, 0 ≤ j ∧ j < 4 → Slk (ccN M n j / 4) (ccN M n j % 4) (Y i j).toNat := fun j hj a b => by
      have := @ccN_b M n j hM
      have := @uuB M n j hM
      have := (h1 j hj).2.2 (by omega) (by omega)
      omega
    have p : ∀ j : Int, 0 ≤ j ∧ j < 4 → (((Y i j).toNat : Nat) : Int) = Y i j := fun j hj => by have := (h1 j hj).1; omega
    refine ⟨⟨sl 0 (by decide), sl 1 (by decide), sl 2 (by decide), sl 3 (by decide)⟩, ?_, ?_⟩
    · apply Int.ofNat.inj
      show ((_ : Nat) : Int) = ((S : Nat) : Int)
      simp only [Int.natCast_add, Int.natCast_mul, (ccN_b hM).2.2.2.1, p 0 (by decide), p 1 (by decide), p 2 (by decide), p 3 (by decide)]
      rw [h2, hs]
    · apply Int.ofNat.inj
      show ((_ : Nat) : Int) = ((T : Nat) : Int)
      simp only [Int.natCast_add, Int.natCast_mul, (ccN_b hM).2.2.2.2, p 0 (by decide), p 1 (by decide), p 2 (by decide), p 3 (by decide)]
      rw [h3, ht]
  · obtain ⟨⟨h1, _, _⟩, h4⟩ := hY i (by omega)
    obtain ⟨⟨g1, _, _⟩, g4⟩ := hY j (by omega)
    have q0 := congrArg (fun z : Nat × Nat × Nat × Nat => z.1) e
    have q1 := congrArg (fun z : Nat × Nat × Nat × Nat => z.2.1) e
    have q2 := congrArg (fun z : Nat × Nat × Nat × Nat => z.2.2.1) e
    have q3 := congrArg (fun z : Nat × Nat × Nat × Nat => z.2.2.2) e
    dsimp only at q0 q1 q2 q3
    have nn : ∀ {x y : Int}, 0 ≤ x → 0 ≤ y → x.toNat = y.toNat → x = y := fun {x y} a b c => by omega
    have r0 := nn (h1 0 (by decide)).1 (g1 0 (by decide)).1 q0
    have r1 := nn (h1 1 (by decide)).1 (g1 1 (by decide)).1 q1
    have r2 := nn (h1 2 (by decide)).1 (g1 2 (by decide)).1 q2
    have r3 := nn (h1 3 (by decide)).1 (g1 3 (by decide)).1 q3
    have hlt : f (i : Int) < f (j : Int) := hf i j ⟨Int.natCast_nonneg _, Int.ofNat_lt.2 hij, by clear hA hY q0 q1 q2 q3 r0 r1 r2 r3 h1 g1; omega⟩
    have he : cd4 (Y i) = cd4 (Y j) := by unfold cd4 pre3; rw [r0, r1, r2, r3]
    rw [h4, g4, he] at hlt
    exact Int.lt_irrefl _ hlt
