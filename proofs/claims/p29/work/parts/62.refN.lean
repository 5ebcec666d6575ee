/-- the decomposition of w, to its end -/
def DecF (M : Int → Int) (n : Int) (w : Int → Int) (len : Nat) (R : Nat → Int → Int) (C : Nat → Int) : Prop := (∀ j, 0 ≤ j ∧ j < n → R 0 j = w j) ∧ (∀ i : Nat, i < len → (0 ≤ C i ∧ C i < 2 * gk M n) ∧ isF n (gE M n) (R i) (C i) ∧ ∀ j, 0 ≤ j ∧ j < n → R (i + 1) j = R i j - cvec (gE M n) (C i) j) ∧ (∀ j, 0 ≤ j ∧ j < n → R len j = 0) ∧ (len : Int) ≤ asum w n.toNat ∧ ∀ i : Nat, i ≤ len → ∀ j, 0 ≤ j ∧ j < n → c1 (R i j) (w j)
/-- something fits each vector of the kernel -/
def Hex (M : Int → Int) (n : Int) : Prop := ∀ r, KerF M n r → nz n r → ∃ c, (0 ≤ c ∧ c < 2 * gk M n) ∧ cf n (cvec (gE M n) c) r
theorem least_c {P : Int → Prop} {c : Int} (h0 : 0 ≤ c) (h : P c) : ∃ q, 0 ≤ q ∧ q ≤ c ∧ P q ∧ ∀ q', 0 ≤ q' ∧ q' < q → ¬ P q' := by
  have key : ∀ k : Nat, ∀ c : Int, 0 ≤ c → c ≤ k → P c → ∃ q, 0 ≤ q ∧ q ≤ c ∧ P q ∧ ∀ q', 0 ≤ q' ∧ q' < q → ¬ P q' := by
    intro k
    induction k with
    | zero =>
      intro c h0 h1 h2
      exact ⟨c, h0, Int.le_refl _, h2, fun q' hq => absurd hq (by omega)⟩
    | succ k ih =>
      intro c h0 h1 h2
      by_cases e : ∃ q', (0 ≤ q' ∧ q' < c) ∧ P q'
      · obtain ⟨q', g1, g2⟩ := e
        obtain ⟨q, a1, a2, a3, a4⟩ := ih q' g1.1 (by omega) g2
        exact ⟨q, a1, by omega, a3, a4⟩
      · exact ⟨c, h0, Int.le_refl _, h2, fun q' hq g => e ⟨q', hq, g⟩⟩
  exact key c.toNat c h0 (by omega) h
theorem cvec_ker {M : Int → Int} {n c : Int} (hk : ∀ e, 0 ≤ e ∧ e < gk M n → KerF M n (gE M n e)) (hc : 0 ≤ c ∧ c < 2 * gk M n) : KerF M n (cvec (gE M n) c) := by
  unfold cvec
  split
  · exact hk _ (by omega)
  · exact (hk _ (by omega)).neg
theorem DecF.ex {M : Int → Int} {n : Int} (hn : 2 ≤ n ∧ n ≤ 4) (hk : ∀ e, 0 ≤ e ∧ e < gk M n → KerF M n (gE M n e) ∧ nz n (gE M n e)) (hex : Hex M n) : ∀ (N : Nat) (w : Int → Int), KerF M n w → asum w n.toNat ≤ N → ∃ len R C, DecF M n w len R C := by
  intro N
  induction N with
  | zero =>
    intro w hw hN
    refine ⟨0, fun _ => w, fun _ => 0, fun _ _ => rfl, fun i hi => absurd hi (Nat.not_lt_zero _), fun j hj => ?_, asum_0 _, fun i hi j hj => c1_rf _⟩
    apply Classical.byContradiction
    intro h
    have := asum_pos (f := w) (j := j) n.toNat (by omega) h
    omega
  | succ N ih =>
    intro w hw hN
    by_cases z : nz n w
    · obtain ⟨c0, h0, h1⟩ := hex w hw z
      obtain ⟨c, q0, q1, q2, q3⟩ := least_c (P := fun c => cf n (cvec (gE M n) c) w) h0.1 h1
      have kc := cvec_ker (fun e he => (hk e he).1) (c := c) (by omega)
      have nzc : nz n (cvec (gE M n) c) := by
        obtain ⟨j, j0, j1, j2⟩ := (hk (c / 2) (by omega)).2
        refine ⟨j, j0, j1, ?_⟩
        unfold cvec
        split
        · exact j2
        · unfold ng; omega
      have sub := asum_sub n.toNat (u := cvec (gE M n) c) (v := w) (fun j hj => q2 j (by omega))
      have pos : 1 ≤ asum (cvec (gE M n) c) n.toNat := by
        obtain ⟨j, j0, j1, j2⟩ := nzc
        exact asum_pos (j := j) _ (by omega) j2
      have kw : KerF M n (fun j => w j - cvec (gE M n) c j) := by
        have s0 := dt_sub' (M := M) (u := w) (v := fun j => w j - cvec (gE M n) c j) (w := cvec (gE M n) c) (r := 0) n.toNat (fun j _ => by omega)
        have s1 := dt_sub' (M := M) (u := w) (v := fun j => w j - cvec (gE M n) c j) (w := cvec (gE M n) c) (r := 1) n.toNat (fun j _ => by omega)
        rw [hw.1, kc.1] at s0
        rw [hw.2, kc.2] at s1
        exact ⟨by omega, by omega⟩
      obtain ⟨len, R, C, d1, d2, d3, d4, d5⟩ := ih _ kw (by rw [sub]; omega)
      rw [sub] at d4
      refine ⟨len + 1, fun i => (match i with | 0 => w | q + 1 => R q), fun i => (match i with | 0 => c | q + 1 => C q), fun _ _ => rfl, fun i hi => ?_, fun j hj => d3 j hj, by omega, fun i hi j hj => ?_⟩
      · cases i with
        | zero =>
          refine ⟨⟨q0, by show c < _; omega⟩, ⟨q2, q3⟩, fun j hj => ?_⟩
          show R 0 j = w j - cvec (gE M n) c j
          rw [d1 j hj]
        | succ q => exact d2 q (by omega)
      · cases i with
        | zero => exact c1_rf _
        | succ q => exact c1_tr (d5 q (by omega) j hj) (c1_sub (q2 j hj))
    · refine ⟨0, fun _ => w, fun _ => 0, fun _ _ => rfl, fun i hi => absurd hi (Nat.not_lt_zero _), fun j hj => ?_, asum_0 _, fun i hi j hj => c1_rf _⟩
      apply Classical.byContradiction
      intro h
      exact z ⟨j, hj.1, hj.2, h⟩
/-- the first code that fits -/
def FcP (n k : Int) (E : Int → Int → Int) (r : Int → Int) (v : Int) : Prop := (∃ c, (0 ≤ c ∧ c < 2 * k) ∧ isF n E r c ∧ v = tval c) ∨ (v = 0 ∧ ∀ c, 0 ≤ c ∧ c < 2 * k → ¬ cf n (cvec E c) r)
theorem isF_uniq {n : Int} {E : Int → Int → Int} {r : Int → Int} {c c' : Int} (hc : 0 ≤ c) (hc' : 0 ≤ c') (h : isF n E r c) (g : isF n E r c') : c = c' := by
  rcases Int.lt_trichotomy c c' with a | a | a
  · exact absurd h.1 (g.2 c ⟨hc, a⟩)
  · exact a
  · exact absurd g.1 (h.2 c' ⟨hc', a⟩)
