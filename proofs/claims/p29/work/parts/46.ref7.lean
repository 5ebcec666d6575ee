/-- row e of the reference's basis -/
def er (F : FE) (e : Int) : Int → Int := fun j => F 4 (4 * e + j)
def lst (E : Int → Int → Int) (z : Int → Int) (k : Int) : Prop := ∀ e, 0 ≤ e ∧ e < k → ¬ c4 (E e) z 4 ∧ ¬ c4 (ng (E e)) z 4
theorem c4_ext {u u' v : Int → Int} {k : Nat} (e : ∀ j, u j = u' j) (h : c4 u v k) : c4 u' v k := fun i hi => by rw [← e]; exact h i hi
def nz (n : Int) (z : Int → Int) : Prop := ∃ j, 0 ≤ j ∧ j < n ∧ z j ≠ 0
/-- a vector of the kernel with nothing of it below -/
def Gmin (M : Int → Int) (n : Int) (z : Int → Int) : Prop := KerF M n z ∧ nz n z ∧ ∀ u, KerF M n u → nz n u → cf n u z → ∀ j, 0 ≤ j ∧ j < n → u j = z j
/-- facts of numbers, proved later -/
def CapG : Prop := ∀ (M : Int → Int) (n : Int), (2 ≤ n ∧ n ≤ 4) → (∀ j, 0 ≤ M j ∧ M j ≤ 3) → ∀ (k : Nat) (E : Nat → Int → Int), (∀ i, i < k → Gmin M n (E i) ∧ lead (E i) n) → (∀ i j, i < j → j < k → ¬ ∀ c, 0 ≤ c ∧ c < n → E i c = E j c) → k ≤ 15
def BndG : Prop := ∀ (M : Int → Int) (n r b : Int) (z : Int → Int), (2 ≤ n ∧ n ≤ 4) → (∀ j, 0 ≤ M j ∧ M j ≤ 3) → PVr M n r b → Gmin M n z → ∀ j, 0 ≤ j ∧ j < n → -b ≤ z j ∧ z j ≤ b
theorem c1_ng {u v : Int} (h : c1 u v) : c1 (-u) (-v) := by unfold c1 at *; omega
theorem cf_ng {n : Int} {u v : Int → Int} (h : cf n u v) : cf n (ng u) (ng v) := fun i hi => c1_ng (h i hi)
theorem ng_ng (u : Int → Int) : ng (ng u) = u := by funext j; unfold ng; omega
theorem lead_or {n : Int} {u : Int → Int} (hn : 0 ≤ n) (h : nz n u) : lead u n ∨ lead (ng u) n := by
  obtain ⟨j, j0, j1, j2⟩ := h
  have key : ∀ k : Nat, (∃ i, 0 ≤ i ∧ i < (k : Int) ∧ i < n ∧ u i ≠ 0) → lead u n ∨ lead (ng u) n := by
    intro k
    induction k with
    | zero => rintro ⟨i, i0, i1, -⟩; omega
    | succ k ih =>
      rintro ⟨i, i0, i1, i2, i3⟩
      by_cases c : ∃ i, 0 ≤ i ∧ i < (k : Int) ∧ i < n ∧ u i ≠ 0
      · exact ih c
      · have z : ∀ i, 0 ≤ i ∧ i < (k : Int) → i < n → u i = 0 := fun i hi hn => Classical.byContradiction fun h => c ⟨i, hi.1, hi.2, hn, h⟩
        have ik : i = k := by
          by_cases e : i = k
          · exact e
          · exact absurd (z i (by omega) i2) i3
        by_cases p : 0 < u i
        · exact Or.inl ⟨i, i0, i2, fun q hq => z q (by omega) (by omega), p⟩
        · refine Or.inr ⟨i, i0, i2, fun q hq => ?_, ?_⟩
          · unfold ng; rw [z q (by omega) (by omega)]; rfl
          · unfold ng; omega
  exact key (j.toNat + 1) ⟨j, j0, by omega, j1, j2⟩
/-- the vector cut to n places -/
def trn (n : Int) (u : Int → Int) : Int → Int := fun j => if 0 ≤ j ∧ j < n then u j else 0
theorem trn_in {n : Int} {u : Int → Int} {j : Int} (h : 0 ≤ j ∧ j < n) : trn n u j = u j := if_pos h
theorem asum_n {n : Int} {z : Int → Int} (hn : 0 ≤ n ∧ n ≤ 4) (h : ∀ j, n ≤ j ∧ j < 4 → z j = 0) : asum z 4 = asum z n.toNat := by
  have key : ∀ k : Nat, n.toNat + k ≤ 4 → asum z (n.toNat + k) = asum z n.toNat := by
    intro k
    induction k with
    | zero => intro _; rfl
    | succ k ih =>
      intro hk
      show asum z (n.toNat + k) + ab (z ((n.toNat + k : Nat) : Int)) = _
      rw [ih (by omega), h _ (by omega)]
      show _ + 0 = _
      omega
  have := key (4 - n.toNat) (by omega)
  rw [show n.toNat + (4 - n.toNat) = 4 by omega] at this
  exact this
theorem cf_c4 {n : Int} {u v : Int → Int} (hn : 0 ≤ n ∧ n ≤ 4) (hu : ∀ j, n ≤ j ∧ j < 4 → u j = 0) : c4 u v 4 ↔ cf n u v := by
  constructor
  · exact fun h i hi => h i (by omega)
  · intro h i hi
    by_cases c : i < n
    · exact h i (by omega)
    · rw [hu i (by omega)]
      unfold c1; omega
/-- the processed vectors of the list -/
def prc (K : Int → Int → Int) (N k i : Int) : Prop := asum (K i) 4 < N ∨ (asum (K i) 4 = N ∧ i < k)
def LBI (M : Int → Int) (n b m N k : Int) (K : Int → Int → Int) (c : Int) (E : Int → Int → Int) : Prop := 0 ≤ c ∧
  (∀ e, 0 ≤ e ∧ e < c → Cnd M n b (E e) ∧ Gmin M n (E e) ∧ ∃ i, (0 ≤ i ∧ i < m) ∧ prc K N k i ∧ ∀ j, 0 ≤ j ∧ j < 4 → E e j = K i j) ∧
  (∀ e e', 0 ≤ e ∧ e < e' ∧ e' < c → (asum (E e) 4 < asum (E e') 4 ∨ (asum (E e) 4 = asum (E e') 4 ∧ Lxg (E e) (E e'))) ∧ ¬ cf n (E e) (E e') ∧ ¬ cf n (ng (E e)) (E e')) ∧
  ∀ i, 0 ≤ i ∧ i < m → prc K N k i → ∃ e, 0 ≤ e ∧ e < c ∧ (cf n (E e) (K i) ∨ cf n (ng (E e)) (K i))
theorem LBI.cap {M : Int → Int} {n b m N k c : Int} {K E : Int → Int → Int} (hG : CapG) (hn : 2 ≤ n ∧ n ≤ 4) (hM : ∀ j, 0 ≤ M j ∧ M j ≤ 3) (h : LBI M n b m N k K c E) : c ≤ 15 := by
  have := hG M n hn hM c.toNat (fun i => E i) (fun i hi => ⟨(h.2.1 i (by omega)).2.1, (h.2.1 i (by omega)).1.2.2.1⟩) (fun i j hij hj e => by
    have := (h.2.2.1 i j (by omega)).2.1
    exact this (fun q hq => by rw [e q hq]; exact c1_rf _))
  have := h.1
  omega
theorem LBI.cut {M : Int → Int} {n b m N k c : Int} {K E E' : Int → Int → Int} (hn : 2 ≤ n ∧ n ≤ 4) (h : LBI M n b m N k K c E) (e : ∀ x, 0 ≤ x ∧ x < c → ∀ j, 0 ≤ j ∧ j < 4 → E x j = E' x j) : LBI M n b m N k K c E' := by
  obtain ⟨h0, h1, h2, h3⟩ := h
  refine ⟨h0, fun x hx => ?_, fun x y hxy => ?_, fun i hi hp => ?_⟩
  · obtain ⟨a1, ⟨a2, ⟨p, p0, p1, p2⟩, a4⟩, i, i1, i2, i3⟩ := h1 x hx
    refine ⟨a1.ext ⟨by omega, hn.2⟩ (e x hx), ⟨a2.ext (fun j hj => e x hx j (by omega)), ⟨p, p0, p1, by rw [← e x hx p (by omega)]; exact p2⟩, fun u hu hnz hc j hj => ?_⟩, i, i1, i2, fun j hj => by rw [← e x hx j hj]; exact i3 j hj⟩
    rw [← e x hx j (by omega)]
    exact a4 u hu hnz (cf_ext (fun _ _ => rfl) (fun j hj => (e x hx j (by omega)).symm) hc) j hj
  · obtain ⟨a1, a2, a3⟩ := h2 x y hxy
    have ex := e x (by omega)
    have ey := e y (by omega)
    refine ⟨?_, fun g => a2 (cf_ext (fun j hj => (ex j (by omega)).symm) (fun j hj => (ey j (by omega)).symm) g), fun g => a3 (cf_ext (fun j hj => ng_ext (ex j (by omega)).symm) (fun j hj => (ey j (by omega)).symm) g)⟩
    rw [← asum_ext 4 (fun j hj => ex j (by omega)), ← asum_ext 4 (fun j hj => ey j (by omega))]
    rcases a1 with a1 | ⟨a1, p, p0, p1, p2⟩
    · exact Or.inl a1
    · exact Or.inr ⟨a1, p, p0, fun q hq => by rw [← ex q (by omega), ← ey q (by omega)]; exact p1 q hq, by rw [← ex p (by omega), ← ey p (by omega)]; exact p2⟩
  · obtain ⟨x, x0, x1, x2⟩ := h3 i hi hp
    exact ⟨x, x0, x1, x2.imp (cf_ext (fun j hj => e x ⟨x0, x1⟩ j (by omega)) (fun _ _ => rfl)) (cf_ext (fun j hj => ng_ext (e x ⟨x0, x1⟩ j (by omega))) (fun _ _ => rfl))⟩
