-- the decomposition: place 47: 0 length, 1 sequence (48), 2 rest (49)
/-- the vectors in the order in which they are tried -/
def cvec (E : Int → Int → Int) (c : Int) : Int → Int := if c % 2 = 0 then E (c / 2) else ng (E (c / 2))
def tval (c : Int) : Int := if c % 2 = 0 then c / 2 + 1 else -(c / 2 + 1)
def isF (n : Int) (E : Int → Int → Int) (r : Int → Int) (c : Int) : Prop := cf n (cvec E c) r ∧ ∀ c', 0 ≤ c' ∧ c' < c → ¬ cf n (cvec E c') r
/-- len elements have been taken from w, the first codes do not fit the rest -/
def DSt (n : Int) (E : Int → Int → Int) (k : Int) (w : Int → Int) (c : Int) (len : Nat) (rest seq : Int → Int) : Prop :=
  ∃ (R : Nat → Int → Int) (C : Nat → Int), (∀ j, 0 ≤ j ∧ j < n → R 0 j = w j) ∧ (∀ j, 0 ≤ j ∧ j < n → R len j = rest j) ∧ (∀ i : Nat, i < len → (0 ≤ C i ∧ C i < 2 * k) ∧ isF n E (R i) (C i) ∧ seq i = tval (C i) ∧ ∀ j, 0 ≤ j ∧ j < n → R (i + 1) j = R i j - cvec E (C i) j) ∧ ∀ c', 0 ≤ c' ∧ c' < c → ¬ cf n (cvec E c') rest
theorem c1_sub {u v : Int} (h : c1 u v) : c1 (v - u) v := by unfold c1 at *; omega
theorem c1_tr {u v w : Int} (h : c1 u v) (g : c1 v w) : c1 u w := by unfold c1 at *; omega
theorem c1_ab {u v : Int} (h : c1 u v) : ab (v - u) = ab v - ab u := by unfold c1 at h; unfold ab; (repeat' split) <;> omega
theorem asum_ext {f g : Int → Int} : ∀ k : Nat, (∀ j : Int, 0 ≤ j ∧ j < k → f j = g j) → asum f k = asum g k
  | 0, _ => rfl
  | k + 1, h => by simp only [asum]; rw [asum_ext k (fun j hj => h j (by omega)), h k (by omega)]
theorem asum_0 {f : Int → Int} : ∀ k : Nat, 0 ≤ asum f k
  | 0 => Int.le_refl _
  | k + 1 => by have := asum_0 (f := f) k; simp only [asum]; unfold ab; split <;> omega
theorem asum_sub {u v : Int → Int} : ∀ k : Nat, (∀ j : Int, 0 ≤ j ∧ j < k → c1 (u j) (v j)) → asum (fun j => v j - u j) k = asum v k - asum u k
  | 0, _ => by simp [asum]
  | k + 1, h => by
    simp only [asum]
    rw [asum_sub k (fun j hj => h j (by omega)), c1_ab (h k (by omega))]
    omega
theorem asum_pos {f : Int → Int} {j : Int} : ∀ k : Nat, 0 ≤ j ∧ j < k → f j ≠ 0 → 1 ≤ asum f k
  | 0, h, _ => absurd h (by omega)
  | k + 1, h, hf => by
    simp only [asum]
    by_cases e : j = k
    · subst e
      have := asum_0 (f := f) k
      unfold ab; split <;> omega
    · have := asum_pos k (by omega) hf
      unfold ab; split <;> omega
theorem ab_neg (x : Int) : ab (-x) = ab x := by unfold ab; (repeat' split) <;> omega
theorem asum_ng {f : Int → Int} : ∀ k : Nat, asum (ng f) k = asum f k
  | 0 => rfl
  | k + 1 => by simp only [asum]; rw [asum_ng k]; simp only [ng, ab_neg]
theorem DSt.no {n : Int} {E : Int → Int → Int} {k : Int} {w : Int → Int} {c : Int} {len : Nat} {rest seq : Int → Int} (h : DSt n E k w c len rest seq) (hn : ¬ cf n (cvec E c) rest) : DSt n E k w (c + 1) len rest seq := by
  obtain ⟨R, C, h1, h2, h3, h4⟩ := h
  refine ⟨R, C, h1, h2, h3, fun c' hc' => ?_⟩
  by_cases e : c' = c
  · subst e; exact hn
  · exact h4 c' (by omega)
theorem DSt.yes {n : Int} {E : Int → Int → Int} {k : Int} {w : Int → Int} {c : Int} {len : Nat} {rest seq rest' seq' : Int → Int} (h : DSt n E k w c len rest seq) (hc : 0 ≤ c ∧ c < 2 * k) (hy : cf n (cvec E c) rest) (hr : ∀ j, 0 ≤ j ∧ j < n → rest' j = rest j - cvec E c j) (hs : ∀ i : Int, 0 ≤ i ∧ i < len → seq' i = seq i) (hs2 : seq' len = tval c) : DSt n E k w c (len + 1) rest' seq' := by
  obtain ⟨R, C, h1, h2, h3, h4⟩ := h
  refine ⟨fun i => if i ≤ len then R i else rest', fun i => if i < len then C i else c, fun j hj => by simp only [Nat.zero_le, if_true]; exact h1 j hj, fun j hj => by simp only [show ¬ (len + 1 ≤ len) by omega, if_false], fun i hi => ?_, fun c' hc' g => h4 c' hc' ?_⟩
  · by_cases hl : i < len
    · simp only [hl, if_true, show i ≤ len by omega, show i + 1 ≤ len by omega]
      obtain ⟨a1, a2, a3, a4⟩ := h3 i hl
      exact ⟨a1, a2, by rw [hs i (by omega)]; exact a3, a4⟩
    · obtain rfl : i = len := by omega
      simp only [hl, if_false, Nat.le_refl, if_true, show ¬ (i + 1 ≤ i) by omega]
      refine ⟨hc, ⟨cf_ext (fun _ _ => rfl) (fun j hj => (h2 j hj).symm) hy, fun c' hc' g => h4 c' hc' (cf_ext (fun _ _ => rfl) h2 g)⟩, hs2, fun j hj => by rw [h2 j hj]; exact hr j hj⟩
  · intro j hj
    have a := g j hj
    rw [hr j hj] at a
    exact c1_tr a (c1_sub (hy j hj))
/-- what the taking may change -/
def Dfr (I I' : IE) (F F' : FE) : Prop := (∀ a k, (a ≠ 47 ∨ k ≠ 0) → I' a k = I a k) ∧ ∀ a, a ≠ 48 → a ≠ 49 → F' a = F a
theorem Dfr.tr {I I1 I2 : IE} {F F1 F2 : FE} (h : Dfr I I1 F F1) (g : Dfr I1 I2 F1 F2) : Dfr I I2 F F2 := ⟨fun a k ha => (g.1 a k ha).trans (h.1 a k ha), fun a h1 h2 => (g.2 a h1 h2).trans (h.2 a h1 h2)⟩
