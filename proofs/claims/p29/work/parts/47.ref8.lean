theorem elast_sum {n : Int} (hn : 2 ≤ n ∧ n ≤ 4) : asum (elast n) 4 = 1 := by
  rcases (show n = 2 ∨ n = 3 ∨ n = 4 by omega) with rfl | rfl | rfl <;> decide
theorem asum_trn {n : Int} {u : Int → Int} (hn : 0 ≤ n) : asum (trn n u) n.toNat = asum u n.toNat := asum_ext _ (fun j hj => trn_in (by omega))
theorem gmin_of {M : Int → Int} {n b m N k c : Int} {K E : Int → Int → Int} (hn : 2 ≤ n ∧ n ≤ 4) (hF : KFin M n b m K) (h : LBI M n b m N k K c E) (hk : 0 ≤ k ∧ k < m) (hN : asum (K k) 4 = N) (hl : lst E (K k) c) : Gmin M n (K k) := by
  obtain ⟨f0, f1, f2, f3, f4⟩ := hF
  obtain ⟨z1, z2⟩ := f1 k hk
  have zl := z1.2.2.1
  have znz : nz n (K k) := by
    obtain ⟨q, q0, q1, q2, q3⟩ := zl
    exact ⟨q, q0, q1, by omega⟩
  refine ⟨z1.1, znz, fun u hu hnz hc => ?_⟩
  apply Classical.byContradiction
  intro hne
  obtain ⟨le, eq⟩ := asum_le n.toNat (u := u) (v := K k) (fun j hj => hc j (by omega))
  have lt : asum u n.toNat < asum (K k) n.toNat := by
    by_cases e : asum u n.toNat = asum (K k) n.toNat
    · exact absurd (fun j hj => eq e j (by omega)) hne
    · omega
  have sz : asum (K k) 4 = asum (K k) n.toNat := asum_n ⟨by omega, hn.2⟩ z1.2.2.2
  have bd : ∀ j, 0 ≤ j ∧ j < n → -b ≤ u j ∧ u j ≤ b := fun j hj => by
    have a1 := hc j hj
    have a2 := z1.2.1 j hj
    unfold c1 at a1
    omega
  have u1 : 1 ≤ asum u n.toNat := by
    obtain ⟨j, j0, j1, j2⟩ := hnz
    exact asum_pos (j := j) _ (by omega) j2
  -- the vector with the first entry positive
  obtain ⟨s, hs, hle⟩ : ∃ s : Int → Int, ((∀ j, s j = trn n u j) ∨ (∀ j, s j = ng (trn n u) j)) ∧ lead s n := by
    rcases lead_or (by omega) hnz with g | g
    · exact ⟨trn n u, Or.inl (fun _ => rfl), lead_ext g (fun j hj => (trn_in hj).symm)⟩
    · exact ⟨ng (trn n u), Or.inr (fun _ => rfl), lead_ext g (fun j hj => ng_ext (trn_in hj).symm)⟩
  have sj : ∀ j, 0 ≤ j ∧ j < n → s j = u j ∨ s j = -u j := fun j hj => by
    rcases hs with g | g
    · exact Or.inl (by rw [g, trn_in hj])
    · exact Or.inr (by rw [g]; unfold ng; rw [trn_in hj])
  have s0 : ∀ j, n ≤ j ∧ j < 4 → s j = 0 := fun j hj => by
    have t0 : trn n u j = 0 := if_neg (by omega)
    rcases hs with g | g
    · rw [g, t0]
    · rw [g]; unfold ng; rw [t0]; rfl
  have sk : KerF M n s := by
    rcases hs with g | g
    · exact hu.ext (fun j hj => by rw [g, trn_in hj])
    · exact hu.neg.ext (fun j hj => by rw [g]; unfold ng; rw [trn_in hj])
  have sC : Cnd M n b s := ⟨sk, fun j hj => by have := bd j hj; rcases sj j hj with g | g <;> omega, hle, s0⟩
  have ss : asum s 4 = asum u n.toNat := by
    rw [asum_n ⟨by omega, hn.2⟩ s0]
    rcases hs with g | g
    · rw [asum_ext n.toNat (fun j _ => g j), asum_trn (by omega)]
    · rw [asum_ext n.toNat (fun j _ => g j), asum_ng, asum_trn (by omega)]
  have sz2 : cf n s (K k) ∨ cf n (ng s) (K k) := by
    rcases hs with g | g
    · exact Or.inl (cf_ext (fun j hj => by rw [g, trn_in hj]) (fun _ _ => rfl) hc)
    · refine Or.inr (cf_ext (fun j hj => ?_) (fun _ _ => rfl) hc)
      unfold ng; rw [g]; unfold ng; rw [trn_in hj]; omega
  by_cases c2 : lcz M n ∧ s (n - 1) ≠ 0
  · have un : u (n - 1) ≠ 0 := by rcases sj (n - 1) (by omega) with g | g <;> omega
    have a1 := hc (n - 1) (by omega)
    have zn : K k (n - 1) ≠ 0 := by unfold c1 at a1; omega
    have ke := (z2 c2.1).resolve_left zn
    have := asum_ext 4 (fun j hj => ke j (by omega))
    rw [elast_sum hn] at this
    omega
  · obtain ⟨i, i0, i1, i2⟩ := f3 s sC (fun g => Classical.byContradiction fun h => c2 ⟨g, h⟩)
    have si : asum (K i) 4 = asum s 4 := asum_ext 4 (fun j hj => i2 j (by omega))
    obtain ⟨e, e0, e1, e2⟩ := h.2.2.2 i ⟨i0, i1⟩ (Or.inl (by omega))
    have sz3 : cf n (K i) (K k) ∨ cf n (ng (K i)) (K k) := sz2.imp (cf_ext (fun j hj => (i2 j (by omega)).symm) (fun _ _ => rfl)) (cf_ext (fun j hj => ng_ext (i2 j (by omega)).symm) (fun _ _ => rfl))
    have z0 := (h.2.1 e ⟨e0, e1⟩).1.2.2.2
    obtain ⟨l1, l2⟩ := hl e ⟨e0, e1⟩
    rcases cf_tr e2 sz3 with g | g
    · exact l1 ((cf_c4 ⟨by omega, hn.2⟩ z0).mpr g)
    · exact l2 ((cf_c4 ⟨by omega, hn.2⟩ (fun j hj => by unfold ng; rw [z0 j hj]; rfl)).mpr g)
theorem LBI.skip {M : Int → Int} {n b m N k c : Int} {K E : Int → Int → Int} (h : LBI M n b m N k K c E) (hN : asum (K k) 4 ≠ N) : LBI M n b m N (k + 1) K c E := by
  obtain ⟨h0, h1, h2, h3⟩ := h
  refine ⟨h0, fun e he => ?_, h2, fun i hi hp => h3 i hi ?_⟩
  · obtain ⟨a1, a2, i, i1, i2, i3⟩ := h1 e he
    exact ⟨a1, a2, i, i1, i2.imp id (fun g => ⟨g.1, by omega⟩), i3⟩
  · rcases hp with hp | ⟨hp, g⟩
    · exact Or.inl hp
    · refine Or.inr ⟨hp, ?_⟩
      by_cases e : i = k
      · subst e; exact absurd hp hN
      · omega
theorem LBI.no {M : Int → Int} {n b m N k c : Int} {K E : Int → Int → Int} (hn : 2 ≤ n ∧ n ≤ 4) (h : LBI M n b m N k K c E) (hl : ¬ lst E (K k) c) : LBI M n b m N (k + 1) K c E := by
  obtain ⟨h0, h1, h2, h3⟩ := h
  refine ⟨h0, fun e he => ?_, h2, fun i hi hp => ?_⟩
  · obtain ⟨a1, a2, i, i1, i2, i3⟩ := h1 e he
    exact ⟨a1, a2, i, i1, i2.imp id (fun g => ⟨g.1, by omega⟩), i3⟩
  · by_cases e : i = k
    · subst e
      apply Classical.byContradiction
      intro hno
      refine hl (fun e he => ⟨fun g => hno ⟨e, he.1, he.2, Or.inl (fun j hj => g j (by omega))⟩, fun g => hno ⟨e, he.1, he.2, Or.inr (fun j hj => g j (by omega))⟩⟩)
    · exact h3 i hi (hp.imp id (fun g => ⟨g.1, by omega⟩))
theorem LBI.put {M : Int → Int} {n b m N k c : Int} {K E E' : Int → Int → Int} (hn : 2 ≤ n ∧ n ≤ 4) (hF : KFin M n b m K) (h : LBI M n b m N k K c E) (hk : 0 ≤ k ∧ k < m) (hN : asum (K k) 4 = N) (hl : lst E (K k) c) (e : ∀ x, 0 ≤ x ∧ x < c → ∀ j, 0 ≤ j ∧ j < 4 → E' x j = E x j) (e2 : ∀ j, 0 ≤ j ∧ j < 4 → E' c j = K k j) : LBI M n b m N (k + 1) K (c + 1) E' := by
  have gm := gmin_of hn hF h hk hN hl
  have h' := h.cut (E' := E') hn (fun x hx j hj => (e x hx j hj).symm)
  have z0 : ∀ x, 0 ≤ x ∧ x < c → ∀ j, n ≤ j ∧ j < 4 → E x j = 0 := fun x hx => (h.2.1 x hx).1.2.2.2
  have kz := (hF.2.1 k hk).1
  obtain ⟨h0, h1, h2, h3⟩ := h'
  refine ⟨by omega, fun x hx => ?_, fun x y hxy => ?_, fun i hi hp => ?_⟩
  · by_cases cx : x = c
    · subst cx
      obtain ⟨g1, ⟨p, p0, p1, p2⟩, g3⟩ := gm
      refine ⟨kz.ext ⟨by omega, hn.2⟩ (fun j hj => (e2 j hj).symm), ⟨g1.ext (fun j hj => (e2 j (by omega)).symm), ⟨p, p0, p1, by rw [e2 p (by omega)]; exact p2⟩, fun u hu hnz hc j hj => ?_⟩, k, hk, Or.inr ⟨hN, by omega⟩, e2⟩
      rw [e2 j (by omega)]
      exact g3 u hu hnz (cf_ext (fun _ _ => rfl) (fun j hj => e2 j (by omega)) hc) j hj
    · obtain ⟨a1, a2, i, i1, i2, i3⟩ := h1 x (by omega)
      exact ⟨a1, a2, i, i1, i2.imp id (fun g => ⟨g.1, by omega⟩), i3⟩
  · by_cases cy : y = c
    · subst cy
      have ex := e x (by omega)
      obtain ⟨a1, a2, i, i1, i2, i3⟩ := h1 x (by omega)
      have sx : asum (E' x) 4 = asum (K i) 4 := asum_ext 4 (fun j hj => i3 j (by omega))
      have sy : asum (E' y) 4 = N := by rw [← hN]; exact asum_ext 4 (fun j hj => e2 j (by omega))
      obtain ⟨l1, l2⟩ := hl x (by omega)
      refine ⟨?_, fun g => l1 ((cf_c4 ⟨by omega, hn.2⟩ (z0 x (by omega))).mpr (cf_ext (fun j hj => ex j (by omega)) (fun j hj => e2 j (by omega)) g)), fun g => l2 ((cf_c4 ⟨by omega, hn.2⟩ (fun j hj => by unfold ng; rw [z0 x (by omega) j hj]; rfl)).mpr (cf_ext (fun j hj => ng_ext (ex j (by omega))) (fun j hj => e2 j (by omega)) g))⟩
      rcases i2 with i2 | ⟨i2, i4⟩
      · exact Or.inl (by omega)
      · refine Or.inr ⟨by omega, ?_⟩
        obtain ⟨p, p0, p1, p2⟩ := hF.2.2.1 i k (by omega)
        exact ⟨p, p0, fun q hq => by rw [i3 q (by omega), e2 q (by omega)]; exact p1 q hq, by rw [i3 p (by omega), e2 p (by omega)]; exact p2⟩
    · exact h2 x y (by omega)
  · by_cases ci : i = k
    · subst ci
      exact ⟨c, by omega, by omega, Or.inl (fun j hj => by rw [e2 j (by omega)]; exact c1_rf _)⟩
    · obtain ⟨x, x0, x1, x2⟩ := h3 i hi (hp.imp id (fun g => ⟨g.1, by omega⟩))
      exact ⟨x, x0, by omega, x2⟩
theorem LBI.next {M : Int → Int} {n b m N c : Int} {K E : Int → Int → Int} (h : LBI M n b m N m K c E) : LBI M n b m (N + 1) 0 K c E := by
  obtain ⟨h0, h1, h2, h3⟩ := h
  refine ⟨h0, fun e he => ?_, h2, fun i hi hp => h3 i hi ?_⟩
  · obtain ⟨a1, a2, i, i1, i2, i3⟩ := h1 e he
    exact ⟨a1, a2, i, i1, Or.inl (by rcases i2 with g | ⟨g, -⟩ <;> omega), i3⟩
  · rcases hp with g | ⟨g, g2⟩
    · by_cases e : asum (K i) 4 = N
      · exact Or.inr ⟨e, hi.2⟩
      · exact Or.inl (by omega)
    · omega
theorem lxg_cc {u v : Int → Int} (hu : ∀ j, 0 ≤ j ∧ j < 4 → -9 ≤ u j ∧ u j ≤ 9) (hv : ∀ j, 0 ≤ j ∧ j < 4 → -9 ≤ v j ∧ v j ≤ 9) (h : Lxg u v) : ccode u 4 < ccode v 4 := by
  obtain ⟨p, p0, p1, p2⟩ := h
  have u0 := hu 0 (by decide); have u1 := hu 1 (by decide); have u2 := hu 2 (by decide); have u3 := hu 3 (by decide)
  have v0 := hv 0 (by decide); have v1 := hv 1 (by decide); have v2 := hv 2 (by decide); have v3 := hv 3 (by decide)
  show (((0 * 32 + (9 - u 0)) * 32 + (9 - u 1)) * 32 + (9 - u 2)) * 32 + (9 - u 3) < (((0 * 32 + (9 - v 0)) * 32 + (9 - v 1)) * 32 + (9 - v 2)) * 32 + (9 - v 3)
  rcases (show p = 0 ∨ p = 1 ∨ p = 2 ∨ p = 3 by omega) with rfl | rfl | rfl | rfl
  · omega
  · have := p1 0 (by decide); omega
  · have := p1 0 (by decide); have := p1 1 (by decide); omega
  · have := p1 0 (by decide); have := p1 1 (by decide); have := p1 2 (by decide); omega
/-- the basis of the reference is the basis -/
theorem LBI.fin {M : Int → Int} {n r b b' m c : Int} {K E : Int → Int → Int} (hB : BndG) (hn : 2 ≤ n ∧ n ≤ 4) (hM : ∀ j, 0 ≤ M j ∧ M j ≤ 3) (hP : PVr M n r b') (hbb : b' ≤ b) (hb : 1 ≤ b) (hF : KFin M n b m K) (h : LBI M n b m (4 * b + 1) 0 K c E) : Bas M n (c, r, E) := by
  obtain ⟨h0, h1, h2, h3⟩ := h
  have b9 := hP.b9
  have cb : ∀ e, 0 ≤ e ∧ e < c → Cnd M n b' (E e) := fun e he => by
    obtain ⟨⟨a1, a2, a3, a4⟩, g, -⟩ := h1 e he
    exact ⟨a1, hB M n r b' (E e) hn hM hP g, a3, a4⟩
  refine ⟨h0, b', hP, cb, fun e e' hee => ?_, fun z hz => ?_⟩
  · obtain ⟨a1, a2⟩ := h2 e e' hee
    refine ⟨?_, a2⟩
    have k1 := (cb e (by omega)).b9 (by omega)
    have k2 := (cb e' (by omega)).b9 (by omega)
    have b1 := kc_b k1
    have b2 := kc_b k2
    show asum (E e) 4 * 1048576 + ccode (E e) 4 < asum (E e') 4 * 1048576 + ccode (E e') 4
    rcases a1 with a1 | ⟨a1, a3⟩
    · omega
    · have := lxg_cc k1 k2 a3
      omega
  · have hz' : Cnd M n b z := ⟨hz.1, fun j hj => by have := hz.2.1 j hj; omega, hz.2.2.1, hz.2.2.2⟩
    have pr : ∀ i, 0 ≤ i ∧ i < m → prc K (4 * b + 1) 0 i := fun i hi => by
      have g := (hF.2.1 i hi).1
      have kb : ∀ j, 0 ≤ j ∧ j < 4 → ab (K i j) ≤ b := fun j hj => by
        by_cases cj : j < n
        · exact (ab_b (g.2.1 j (by omega))).2
        · rw [g.2.2.2 j (by omega)]
          show (if (0 : Int) ≤ 0 then 0 else -0) ≤ b
          rw [if_pos (by decide)]; omega
      have a0 := kb 0 (by decide); have a1 := kb 1 (by decide); have a2 := kb 2 (by decide); have a3 := kb 3 (by decide)
      refine Or.inl ?_
      show 0 + ab (K i 0) + ab (K i 1) + ab (K i 2) + ab (K i 3) < 4 * b + 1
      omega
    by_cases c2 : lcz M n ∧ z (n - 1) ≠ 0
    · obtain ⟨i, i0, i1, i2⟩ := hF.2.2.2.2 c2.1
      obtain ⟨e, e0, e1, e2⟩ := h3 i ⟨i0, i1⟩ (pr i ⟨i0, i1⟩)
      refine ⟨e, e0, e1, cf_tr e2 ?_⟩
      have ez : ∀ j, 0 ≤ j ∧ j < n → j ≠ n - 1 → K i j = 0 := fun j hj h => by rw [i2 j (by omega)]; unfold elast; rw [if_neg h]
      have el : K i (n - 1) = 1 := by rw [i2 _ (by omega)]; unfold elast; rw [if_pos rfl]
      by_cases p : 0 < z (n - 1)
      · refine Or.inl (fun j hj => ?_)
        by_cases cj : j = n - 1
        · rw [cj, el]; unfold c1; omega
        · rw [ez j hj cj]; unfold c1; omega
      · refine Or.inr (fun j hj => ?_)
        unfold ng
        by_cases cj : j = n - 1
        · rw [cj, el]; unfold c1; omega
        · rw [ez j hj cj]; unfold c1; omega
    · obtain ⟨i, i0, i1, i2⟩ := hF.2.2.2.1 z hz' (fun g => Classical.byContradiction fun h => c2 ⟨g, h⟩)
      obtain ⟨e, e0, e1, e2⟩ := h3 i ⟨i0, i1⟩ (pr i ⟨i0, i1⟩)
      exact ⟨e, e0, e1, e2.imp (cf_ext (fun _ _ => rfl) (fun j hj => i2 j (by omega))) (cf_ext (fun _ _ => rfl) (fun j hj => i2 j (by omega)))⟩
