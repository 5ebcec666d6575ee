/-- two ascending lists with the same members are the same -/
theorem sorted_eq {f g : Int → Int} {m m' : Int} (hm : 0 ≤ m) (hm' : 0 ≤ m') (hf : ∀ i j, 0 ≤ i ∧ i < j ∧ j < m → f i < f j) (hg : ∀ i j, 0 ≤ i ∧ i < j ∧ j < m' → g i < g j)
    (h1 : ∀ i, 0 ≤ i ∧ i < m → ∃ j, 0 ≤ j ∧ j < m' ∧ g j = f i) (h2 : ∀ i, 0 ≤ i ∧ i < m' → ∃ j, 0 ≤ j ∧ j < m ∧ f j = g i) : m = m' ∧ ∀ i, 0 ≤ i ∧ i < m → f i = g i := by
  have key : ∀ k : Nat, ∀ i : Int, 0 ≤ i ∧ i < k → i < m → i < m' → f i = g i := by
    intro k
    induction k with
    | zero => intro i hi; omega
    | succ k ih =>
      intro i hi him him'
      obtain ⟨a, a1, a2, a3⟩ := h1 i ⟨hi.1, him⟩
      obtain ⟨b, b1, b2, b3⟩ := h2 i ⟨hi.1, him'⟩
      have ha : i ≤ a := by
        by_cases e : i ≤ a
        · exact e
        · have := ih a (by omega) (by omega) (by omega)
          have := hf a i (by omega)
          omega
      have hb : i ≤ b := by
        by_cases e : i ≤ b
        · exact e
        · have := ih b (by omega) (by omega) (by omega)
          have := hg b i (by omega)
          omega
      have c1 : g i ≤ g a := by
        by_cases e : i = a
        · rw [e]; exact Int.le_refl _
        · exact Int.le_of_lt (hg i a (by omega))
      have c2 : f i ≤ f b := by
        by_cases e : i = b
        · rw [e]; exact Int.le_refl _
        · exact Int.le_of_lt (hf i b (by omega))
      omega
  have hk : ∀ i, 0 ≤ i → i < m → i < m' → f i = g i := fun i h0 h1 h2 => key (i.toNat + 1) i (by omega) h1 h2
  have hmm : m = m' := by
    by_cases a : m < m'
    · obtain ⟨b, b1, b2, b3⟩ := h2 m (by omega)
      have := hk b b1 b2 (by omega)
      have := hg b m (by omega)
      omega
    · by_cases a : m' < m
      · obtain ⟨b, b1, b2, b3⟩ := h1 m' (by omega)
        have := hk b b1 (by omega) b2
        have := hf b m' (by omega)
        omega
      · omega
  exact ⟨hmm, fun i hi => hk i hi.1 hi.2 (by omega)⟩
theorem PVr.uniq {M : Int → Int} {n r b r' b' : Int} (h : PVr M n r b) (g : PVr M n r' b') : r = r' ∧ b = b' := by
  have z : (∀ c, 0 ≤ c ∧ c < n → M c = 0 ∧ M (4 + c) = 0) → (∃ p c, 0 ≤ p ∧ p ≤ 1 ∧ 0 ≤ c ∧ c < n ∧ M (p * 4 + c) ≠ 0) → False := by
    rintro h0 ⟨p, c, p0, p1, c0, c1, hne⟩
    have := h0 c ⟨c0, c1⟩
    have hp : p = 0 ∨ p = 1 := by omega
    rcases hp with rfl | rfl
    · rw [show 0 * 4 + c = c by omega] at hne; exact hne this.1
    · rw [show 1 * 4 + c = 4 + c by omega] at hne; exact hne this.2
  have z2 : (∀ c, 0 ≤ c ∧ c < n → M c = 0 ∧ M (4 + c) = 0) → (∃ x y, 0 ≤ x ∧ x < y ∧ y < n ∧ mnr M x y ≠ 0) → False := by
    rintro h0 ⟨x, y, x0, x1, x2, hne⟩
    apply hne
    unfold mnr
    rw [(h0 x (by omega)).1, (h0 x (by omega)).2]
    omega
  have z3 : (∀ x y, 0 ≤ x ∧ x < y ∧ y < n → mnr M x y = 0) → (∃ x y, 0 ≤ x ∧ x < y ∧ y < n ∧ mnr M x y ≠ 0) → False := by
    rintro h0 ⟨x, y, x0, x1, x2, hne⟩
    exact hne (h0 x y ⟨x0, x1, x2⟩)
  rcases h with ⟨h1, h2, h3⟩ | ⟨h1, h2, h3, h4⟩ | ⟨h1, h2, h3⟩ <;> rcases g with ⟨g1, g2, g3⟩ | ⟨g1, g2, g3, g4⟩ | ⟨g1, g2, g3⟩
  · omega
  · exact (z h3 g3).elim
  · exact (z2 h3 g3).elim
  · exact (z g3 h3).elim
  · omega
  · exact (z3 h4 g3).elim
  · exact (z2 g3 h3).elim
  · exact (z3 g4 h3).elim
  · omega
theorem PVr.b9 {M : Int → Int} {n r b : Int} (h : PVr M n r b) : (0 ≤ r ∧ r ≤ 2) ∧ 1 ≤ b ∧ b ≤ 9 := by
  rcases h with ⟨h1, h2, h3⟩ | ⟨h1, h2, h3, h4⟩ | ⟨h1, h2, h3⟩ <;> omega
theorem asum_le {u v : Int → Int} (k : Nat) (h : ∀ j : Int, 0 ≤ j ∧ j < k → c1 (u j) (v j)) : asum u k ≤ asum v k ∧ (asum u k = asum v k → ∀ j : Int, 0 ≤ j ∧ j < k → u j = v j) := by
  have e := asum_sub k h
  have p := asum_0 (f := fun j => v j - u j) k
  refine ⟨by omega, fun he j hj => ?_⟩
  by_cases hne : v j - u j = 0
  · omega
  · have := asum_pos (f := fun j => v j - u j) k hj hne
    omega
/-- one below the other, and their sums -/
theorem Cnd.le {M : Int → Int} {n b : Int} {u v : Int → Int} (hn : 0 ≤ n ∧ n ≤ 4) (hu : Cnd M n b u) (hv : Cnd M n b v) (h : cf n u v ∨ cf n (ng u) v) : asum u 4 ≤ asum v 4 ∧ (asum u 4 = asum v 4 → ∀ j, 0 ≤ j ∧ j < 4 → u j = v j) := by
  have ext : ∀ w : Int → Int, (∀ j, n ≤ j ∧ j < 4 → w j = 0) → cf n w v → ∀ j : Int, 0 ≤ j ∧ j < (4 : Nat) → c1 (w j) (v j) := fun w hw hc j hj => by
    by_cases e : j < n
    · exact hc j ⟨hj.1, e⟩
    · rw [hw j (by omega), hv.2.2.2 j (by omega)]; exact c1_rf 0
  rcases h with h | h
  · have := asum_le 4 (ext u hu.2.2.2 h)
    exact ⟨this.1, fun e j hj => this.2 e j (by omega)⟩
  · have := asum_le 4 (ext (ng u) (fun j hj => by unfold ng; rw [hu.2.2.2 j hj]; rfl) h)
    rw [asum_ng] at this
    refine ⟨this.1, fun e => ?_⟩
    have h2 := this.2 e
    obtain ⟨k, k0, k1, k2, k3⟩ := hu.2.2.1
    obtain ⟨l, l0, l1, l2, l3⟩ := hv.2.2.1
    have a := h2 k (by omega)
    have b := h2 l (by omega)
    unfold ng at a b
    by_cases e1 : k < l
    · have := l2 k (by omega); omega
    · by_cases e2 : l < k
      · have := k2 l (by omega); omega
      · have : k = l := by omega
        subst this; omega
theorem cf_tr {n : Int} {u v w : Int → Int} (h : cf n u v ∨ cf n (ng u) v) (g : cf n v w ∨ cf n (ng v) w) : cf n u w ∨ cf n (ng u) w := by
  have c1_ng : ∀ {x y : Int}, c1 x y → c1 (-x) (-y) := fun {x y} h => by unfold c1 at *; omega
  have nn : ∀ x : Int, - -x = x := fun x => by omega
  rcases h with h | h <;> rcases g with g | g
  · exact Or.inl (fun i hi => c1_tr (h i hi) (g i hi))
  · exact Or.inr (fun i hi => c1_tr (c1_ng (h i hi)) (g i hi))
  · exact Or.inr (fun i hi => c1_tr (h i hi) (g i hi))
  · refine Or.inl (fun i hi => ?_)
    have := c1_ng (h i hi)
    unfold ng at this
    rw [nn] at this
    exact c1_tr this (g i hi)
theorem kc_lt {u v : Int → Int} (hu : ∀ j, 0 ≤ j ∧ j < 4 → -9 ≤ u j ∧ u j ≤ 9) (hv : ∀ j, 0 ≤ j ∧ j < 4 → -9 ≤ v j ∧ v j ≤ 9) (h : kc u < kc v) : asum u 4 ≤ asum v 4 := by
  have a := kc_b hu
  have b := kc_b hv
  unfold kc at h
  omega
theorem Bsp.mem {M : Int → Int} {n b k k' : Int} {E E' : Int → Int → Int} (hn : 0 ≤ n ∧ n ≤ 4) (hb : 0 ≤ b ∧ b ≤ 9) (h : Bsp M n b k E) (g : Bsp M n b k' E') : ∀ e, 0 ≤ e ∧ e < k → ∃ e', 0 ≤ e' ∧ e' < k' ∧ ∀ j, 0 ≤ j ∧ j < 4 → E' e' j = E e j := by
  intro e he
  have hc := h.1 e he
  obtain ⟨e', e0, e1, e2⟩ := g.2.2 (E e) hc
  have hc' := g.1 e' ⟨e0, e1⟩
  obtain ⟨e'', f0, f1, f2⟩ := h.2.2 (E' e') hc'
  have hc'' := h.1 e'' ⟨f0, f1⟩
  have l1 := hc'.le hn hc e2
  have l2 := hc''.le hn hc' f2
  have l3 := cf_tr f2 e2
  have l4 := hc''.le hn hc l3
  refine ⟨e', e0, e1, l1.2 ?_⟩
  by_cases x : e'' = e
  · rw [x] at l2; omega
  · by_cases y : e'' < e
    · have := h.2.1 e'' e ⟨f0, y, he.2⟩
      exact absurd l3 (fun z => z.elim this.2.1 this.2.2)
    · have := h.2.1 e e'' ⟨he.1, by omega, f1⟩
      have a := kc_lt (hc.b9 hb.2) (hc''.b9 hb.2) this.1
      have s := l4.2 (by omega)
      rw [kc_ext s] at this
      omega
theorem Bsp.uniq {M : Int → Int} {n b k k' : Int} {E E' : Int → Int → Int} (hn : 0 ≤ n ∧ n ≤ 4) (hb : 0 ≤ b ∧ b ≤ 9) (hk : 0 ≤ k) (hk' : 0 ≤ k') (h : Bsp M n b k E) (g : Bsp M n b k' E') : k = k' ∧ ∀ e, 0 ≤ e ∧ e < k → ∀ j, 0 ≤ j ∧ j < 4 → E e j = E' e j := by
  have s := sorted_eq (f := fun e => kc (E e)) (g := fun e => kc (E' e)) hk hk' (fun i j hij => (h.2.1 i j hij).1) (fun i j hij => (g.2.1 i j hij).1)
    (fun i hi => by obtain ⟨e', a, b, c⟩ := h.mem hn hb g i hi; exact ⟨e', a, b, kc_ext c⟩) (fun i hi => by obtain ⟨e', a, b, c⟩ := g.mem hn hb h i hi; exact ⟨e', a, b, kc_ext c⟩)
  refine ⟨s.1, fun e he => ?_⟩
  exact kc_inj ((h.1 e he).b9 hb.2) ((g.1 e (by omega)).b9 hb.2) (s.2 e he)
/-- the basis of a matrix: count, rank, elements -/
def Bas (M : Int → Int) (n : Int) (p : Int × Int × (Int → Int → Int)) : Prop := 0 ≤ p.1 ∧ ∃ b, PVr M n p.2.1 b ∧ Bsp M n b p.1 p.2.2
noncomputable def gbs (M : Int → Int) (n : Int) : Int × Int × (Int → Int → Int) := Classical.epsilon (Bas M n)
noncomputable def gk (M : Int → Int) (n : Int) : Int := (gbs M n).1
noncomputable def grk (M : Int → Int) (n : Int) : Int := (gbs M n).2.1
noncomputable def gE (M : Int → Int) (n : Int) : Int → Int → Int := (gbs M n).2.2
theorem Bas.eq {M : Int → Int} {n k r : Int} {E : Int → Int → Int} (hn : 0 ≤ n ∧ n ≤ 4) (h : Bas M n (k, r, E)) : k = gk M n ∧ r = grk M n ∧ (∀ e, 0 ≤ e ∧ e < k → ∀ j, 0 ≤ j ∧ j < 4 → E e j = gE M n e j) ∧ Bas M n (gk M n, grk M n, gE M n) := by
  have g : Bas M n (gbs M n) := Classical.epsilon_spec ⟨_, h⟩
  obtain ⟨h1, b, h2, h3⟩ := h
  obtain ⟨g1, b', g2, g3⟩ := id g
  obtain ⟨e1, e2⟩ := h2.uniq g2
  subst e2
  have u := h3.uniq hn (by have := h2.b9; omega) h1 g1 g3
  exact ⟨u.1, e1, u.2, g⟩
