/-- the place of a vector in the law's order -/
def Pn (n z0 z1 z2 z3 : Int) : Int := if n = 4 then ((z0 * 128 + z1) * 128 + z2) * 128 + z3 else if n = 3 then (z0 * 128 + z1) * 128 + z2 + z3 else z0 * 128 + z1 + z2 + z3
def Sol (F : FE) (n s t z0 z1 z2 z3 : Int) : Prop := (0 ≤ z0 ∧ z0 ≤ 127) ∧ (0 ≤ z1 ∧ z1 ≤ 127) ∧ (0 ≤ z2 ∧ z2 ≤ 127) ∧ (0 ≤ z3 ∧ z3 ≤ 127) ∧ (n < 3 → z2 = 0) ∧ (n < 4 → z3 = 0) ∧ pdt F 0 z0 z1 z2 z3 = s ∧ pdt F 1 z0 z1 z2 z3 = t
/-- m of the vectors come ahead of the place q -/
def LC (F : FE) (n s t q m : Int) : Prop := ∃ f : Int → Int, 0 ≤ m ∧ (∀ i j, 0 ≤ i ∧ i < j ∧ j < m → f i < f j) ∧ ∀ x, (∃ i, 0 ≤ i ∧ i < m ∧ f i = x) ↔ ∃ z0 z1 z2 z3, Sol F n s t z0 z1 z2 z3 ∧ Pn n z0 z1 z2 z3 < q ∧ x = Pn n z0 z1 z2 z3
theorem LC.skip {F : FE} {n s t q q' m : Int} (h : LC F n s t q m) (hq : q ≤ q') (hno : ∀ z0 z1 z2 z3, Sol F n s t z0 z1 z2 z3 → q ≤ Pn n z0 z1 z2 z3 → Pn n z0 z1 z2 z3 < q' → False) : LC F n s t q' m := by
  obtain ⟨f, h0, h1, h2⟩ := h
  refine ⟨f, h0, h1, fun x => ?_⟩
  rw [h2 x]
  constructor
  · rintro ⟨z0, z1, z2, z3, a, b, c⟩; exact ⟨z0, z1, z2, z3, a, by omega, c⟩
  · rintro ⟨z0, z1, z2, z3, a, b, c⟩
    by_cases g : Pn n z0 z1 z2 z3 < q
    · exact ⟨z0, z1, z2, z3, a, g, c⟩
    · exact (hno _ _ _ _ a (by omega) b).elim
theorem LC.put {F : FE} {n s t q m y0 y1 y2 y3 : Int} (h : LC F n s t q m) (hy : Sol F n s t y0 y1 y2 y3) (hp : Pn n y0 y1 y2 y3 = q) : LC F n s t (q + 1) (m + 1) := by
  obtain ⟨f, h0, h1, h2⟩ := h
  refine ⟨fun i => if i = m then q else f i, by omega, fun i j hij => ?_, fun x => ⟨?_, ?_⟩⟩
  · show (if i = m then q else f i) < (if j = m then q else f j)
    rw [if_neg (by omega)]
    by_cases e : j = m
    · rw [if_pos e]
      obtain ⟨z0, z1, z2, z3, a, b, c⟩ := (h2 (f i)).mp ⟨i, hij.1, by omega, rfl⟩
      omega
    · rw [if_neg e]; exact h1 i j (by omega)
  · rintro ⟨i, i0, i1, i2⟩
    dsimp only at i2
    by_cases e : i = m
    · rw [if_pos e] at i2
      exact ⟨y0, y1, y2, y3, hy, by omega, by omega⟩
    · rw [if_neg e] at i2
      obtain ⟨z0, z1, z2, z3, a, b, c⟩ := (h2 x).mp ⟨i, i0, by omega, i2⟩
      exact ⟨z0, z1, z2, z3, a, by omega, c⟩
  · rintro ⟨z0, z1, z2, z3, a, b, c⟩
    by_cases g : Pn n z0 z1 z2 z3 < q
    · obtain ⟨i, i0, i1, i2⟩ := (h2 x).mpr ⟨z0, z1, z2, z3, a, g, c⟩
      exact ⟨i, i0, by omega, by dsimp only; rw [if_neg (by omega)]; exact i2⟩
    · exact ⟨m, h0, by omega, by dsimp only; rw [if_pos rfl]; omega⟩
theorem Pn_b {n y0 y1 y2 y3 : Int} (h0 : 0 ≤ y0 ∧ y0 ≤ 127) (h1 : 0 ≤ y1 ∧ y1 ≤ 127) (h2 : 0 ≤ y2 ∧ y2 ≤ 127) (h3 : 0 ≤ y3 ∧ y3 ≤ 127) : 0 ≤ Pn n y0 y1 y2 y3 ∧ Pn n y0 y1 y2 y3 ≤ 268435455 := by
  unfold Pn
  split
  · omega
  · split <;> omega
theorem Pn_s {n y0 y1 y2 y3 : Int} : Pn n y0 y1 y2 (y3 + 1) = Pn n y0 y1 y2 y3 + 1 := by
  unfold Pn
  split
  · omega
  · split <;> omega
theorem LC.le {F : FE} {n s t q m : Int} (h : LC F n s t q m) (hq : 0 ≤ q) : 0 ≤ m ∧ m ≤ q := by
  obtain ⟨f, h0, h1, h2⟩ := h
  refine ⟨h0, ?_⟩
  have key : ∀ k : Nat, (k : Int) < m → (k : Int) ≤ f k := by
    intro k
    induction k with
    | zero =>
      intro hk
      obtain ⟨z0, z1, z2, z3, a, b, c⟩ := (h2 (f 0)).mp ⟨0, by decide, hk, rfl⟩
      have := (Pn_b (n := n) a.1 a.2.1 a.2.2.1 a.2.2.2.1).1
      show 0 ≤ f 0
      omega
    | succ k ih =>
      intro hk
      have a := ih (by omega)
      have := h1 k (k + 1 : Nat) (by omega)
      omega
  by_cases hm : m = 0
  · omega
  · have a := key (m - 1).toNat (by omega)
    rw [show (((m - 1).toNat : Nat) : Int) = m - 1 by omega] at a
    obtain ⟨z0, z1, z2, z3, _, b, c⟩ := (h2 (f (m - 1))).mp ⟨m - 1, by omega, by omega, rfl⟩
    omega
theorem mul_mono {u y z : Int} (hu : 0 ≤ u ∧ u ≤ 3) (h : y ≤ z) : u * y ≤ u * z := Int.mul_le_mul_of_nonneg_left h hu.1
theorem pdt_mono {F : FE} {r y0 y1 y2 y3 z0 z1 z2 z3 : Int} (hA : A3 F) (hr : 0 ≤ r ∧ r ≤ 1) (h0 : y0 ≤ z0) (h1 : y1 ≤ z1) (h2 : y2 ≤ z2) (h3 : y3 ≤ z3) : pdt F r y0 y1 y2 y3 ≤ pdt F r z0 z1 z2 z3 := by
  have a0 := mul_mono (hA (2 + 4 * r) (by omega)) h0
  have a1 := mul_mono (hA (3 + 4 * r) (by omega)) h1
  have a2 := mul_mono (hA (4 + 4 * r) (by omega)) h2
  have a3 := mul_mono (hA (5 + 4 * r) (by omega)) h3
  unfold pdt
  omega
/-- the bounds of a vector's entries -/
theorem Sol.b {F : FE} {n s t z0 z1 z2 z3 : Int} (h : Sol F n s t z0 z1 z2 z3) (hA : A3 F) (hP : PosF F n) (hn : 2 ≤ n ∧ n ≤ 4) (hs : s ≤ 36) (ht : t ≤ 36) : z0 ≤ 36 ∧ z1 ≤ 36 ∧ z2 ≤ 36 ∧ z3 ≤ 36 := by
  obtain ⟨b0, b1, b2, b3, e2, e3, p0, p1⟩ := h
  unfold pdt at p0 p1
  rw [show (2 : Int) + 4 * 0 = 2 by decide, show (3 : Int) + 4 * 0 = 3 by decide, show (4 : Int) + 4 * 0 = 4 by decide, show (5 : Int) + 4 * 0 = 5 by decide] at p0
  rw [show (2 : Int) + 4 * 1 = 6 by decide, show (3 : Int) + 4 * 1 = 7 by decide, show (4 : Int) + 4 * 1 = 8 by decide, show (5 : Int) + 4 * 1 = 9 by decide] at p1
  have u0 := hA 2 (by decide); have u1 := hA 3 (by decide); have u2 := hA 4 (by decide); have u3 := hA 5 (by decide)
  have l0 := hA 6 (by decide); have l1 := hA 7 (by decide); have l2 := hA 8 (by decide); have l3 := hA 9 (by decide)
  have m0 := Int.mul_nonneg u0.1 b0.1; have m1 := Int.mul_nonneg u1.1 b1.1; have m2 := Int.mul_nonneg u2.1 b2.1; have m3 := Int.mul_nonneg u3.1 b3.1
  have k0 := Int.mul_nonneg l0.1 b0.1; have k1 := Int.mul_nonneg l1.1 b1.1; have k2 := Int.mul_nonneg l2.1 b2.1; have k3 := Int.mul_nonneg l3.1 b3.1
  have one : ∀ u l z : Int, 0 < u + l → 0 ≤ u → 0 ≤ l → 0 ≤ z → u * z ≤ 36 → l * z ≤ 36 → z ≤ 36 := fun u l z h hu hl hz g1 g2 => by
    by_cases c : 1 ≤ u
    · have := le_mul1 c hz; omega
    · have := le_mul1 (show 1 ≤ l by omega) hz; omega
  have c0 := hP 0 (by omega); have c1 := hP 1 (by omega)
  rw [show (2 : Int) + 0 = 2 by decide, show (6 : Int) + 0 = 6 by decide] at c0
  rw [show (2 : Int) + 1 = 3 by decide, show (6 : Int) + 1 = 7 by decide] at c1
  refine ⟨one _ _ _ c0 u0.1 l0.1 b0.1 (by omega) (by omega), one _ _ _ c1 u1.1 l1.1 b1.1 (by omega) (by omega), ?_, ?_⟩
  · by_cases c : n < 3
    · have := e2 c; omega
    · have c2 := hP 2 (by omega)
      rw [show (2 : Int) + 2 = 4 by decide, show (6 : Int) + 2 = 8 by decide] at c2
      exact one _ _ _ c2 u2.1 l2.1 b2.1 (by omega) (by omega)
  · by_cases c : n < 4
    · have := e3 c; omega
    · have c3 := hP 3 (by omega)
      rw [show (2 : Int) + 3 = 5 by decide, show (6 : Int) + 3 = 9 by decide] at c3
      exact one _ _ _ c3 u3.1 l3.1 b3.1 (by omega) (by omega)
/-- what is known of a counting -/
def CN (F : FE) (n s t m2 m3 : Int) : Prop := A3 F ∧ PosF F n ∧ (2 ≤ n ∧ n ≤ 4) ∧ (0 ≤ s ∧ s ≤ 36) ∧ (0 ≤ t ∧ t ≤ 36) ∧ (m2 = 40 ∧ 3 ≤ n ∨ m2 = 0 ∧ n < 3) ∧ (m3 = 40 ∧ 4 ≤ n ∨ m3 = 0 ∧ n < 4)
theorem CN.in {F : FE} {n s t m2 m3 y0 y1 y2 y3 z0 z1 z2 z3 : Int} (h : CN F n s t m2 m3) (hz : Sol F n s t z0 z1 z2 z3) (h0 : y0 ≤ z0) (h1 : y1 ≤ z1) (h2 : y2 ≤ z2) (h3 : y3 ≤ z3) : pdt F 0 y0 y1 y2 y3 ≤ s ∧ pdt F 1 y0 y1 y2 y3 ≤ t ∧ y0 ≤ 40 ∧ y1 ≤ 40 ∧ y2 ≤ m2 ∧ y3 ≤ m3 := by
  obtain ⟨hA, hP, hn, hs, ht, a2, a3⟩ := h
  have b := hz.b hA hP hn hs.2 ht.2
  have p0 := pdt_mono (r := 0) hA (by decide) h0 h1 h2 h3
  have p1 := pdt_mono (r := 1) hA (by decide) h0 h1 h2 h3
  obtain ⟨b0, b1, b2, b3, e2, e3, q0, q1⟩ := hz
  refine ⟨by omega, by omega, by omega, by omega, ?_, ?_⟩
  · rcases a2 with ⟨g1, g2⟩ | ⟨g1, g2⟩
    · omega
    · have := e2 g2; omega
  · rcases a3 with ⟨g1, g2⟩ | ⟨g1, g2⟩
    · omega
    · have := e3 g2; omega
theorem CN.d3 {F : FE} {n s t m2 m3 y0 y1 y2 y3 z0 z1 z2 z3 : Int} (h : CN F n s t m2 m3) (hz : Sol F n s t z0 z1 z2 z3) (h0 : 0 ≤ y0 ∧ y0 ≤ 40) (h1 : 0 ≤ y1 ∧ y1 ≤ 40) (h2 : 0 ≤ y2 ∧ y2 ≤ m2) (h3 : 0 ≤ y3 ∧ y3 ≤ m3 + 1) (p : Pn n y0 y1 y2 y3 ≤ Pn n z0 z1 z2 z3) (q : Pn n z0 z1 z2 z3 < Pn n y0 y1 (y2 + 1) 0) : y0 = z0 ∧ y1 = z1 ∧ y2 = z2 ∧ y3 ≤ z3 := by
  obtain ⟨-, -, hn, -, -, a2, a3⟩ := h
  obtain ⟨b0, b1, b2, b3, e2, e3, -, -⟩ := hz
  rcases (show n = 2 ∨ n = 3 ∨ n = 4 by omega) with rfl | rfl | rfl
  · have := e2 (by decide); have := e3 (by decide)
    unfold Pn at p q
    simp only [show ¬ (2 : Int) = 4 by decide, show ¬ (2 : Int) = 3 by decide, if_false] at p q
    omega
  · have := e3 (by decide)
    unfold Pn at p q
    simp only [show ¬ (3 : Int) = 4 by decide, if_false, if_true] at p q
    omega
  · unfold Pn at p q
    simp only [if_true] at p q
    omega
theorem CN.d2 {F : FE} {n s t m2 m3 y0 y1 y2 z0 z1 z2 z3 : Int} (h : CN F n s t m2 m3) (hz : Sol F n s t z0 z1 z2 z3) (h0 : 0 ≤ y0 ∧ y0 ≤ 40) (h1 : 0 ≤ y1 ∧ y1 ≤ 40) (h2 : 0 ≤ y2 ∧ y2 ≤ m2 + 1) (p : Pn n y0 y1 y2 0 ≤ Pn n z0 z1 z2 z3) (q : Pn n z0 z1 z2 z3 < Pn n y0 (y1 + 1) 0 0) : y0 = z0 ∧ y1 = z1 ∧ y2 ≤ z2 := by
  obtain ⟨-, -, hn, -, -, a2, a3⟩ := h
  obtain ⟨b0, b1, b2, b3, e2, e3, -, -⟩ := hz
  rcases (show n = 2 ∨ n = 3 ∨ n = 4 by omega) with rfl | rfl | rfl
  · have := e2 (by decide); have := e3 (by decide)
    unfold Pn at p q
    simp only [show ¬ (2 : Int) = 4 by decide, show ¬ (2 : Int) = 3 by decide, if_false] at p q
    omega
  · have := e3 (by decide)
    unfold Pn at p q
    simp only [show ¬ (3 : Int) = 4 by decide, if_false, if_true] at p q
    omega
  · unfold Pn at p q
    simp only [if_true] at p q
    omega
theorem CN.d1 {F : FE} {n s t m2 m3 y0 y1 z0 z1 z2 z3 : Int} (h : CN F n s t m2 m3) (hz : Sol F n s t z0 z1 z2 z3) (h0 : 0 ≤ y0 ∧ y0 ≤ 40) (h1 : 0 ≤ y1 ∧ y1 ≤ 41) (p : Pn n y0 y1 0 0 ≤ Pn n z0 z1 z2 z3) (q : Pn n z0 z1 z2 z3 < Pn n (y0 + 1) 0 0 0) : y0 = z0 ∧ y1 ≤ z1 := by
  obtain ⟨-, -, hn, -, -, a2, a3⟩ := h
  obtain ⟨b0, b1, b2, b3, e2, e3, -, -⟩ := hz
  rcases (show n = 2 ∨ n = 3 ∨ n = 4 by omega) with rfl | rfl | rfl
  · have := e2 (by decide); have := e3 (by decide)
    unfold Pn at p q
    simp only [show ¬ (2 : Int) = 4 by decide, show ¬ (2 : Int) = 3 by decide, if_false] at p q
    omega
  · have := e3 (by decide)
    unfold Pn at p q
    simp only [show ¬ (3 : Int) = 4 by decide, if_false, if_true] at p q
    omega
  · unfold Pn at p q
    simp only [if_true] at p q
    omega
theorem CN.d0 {F : FE} {n s t m2 m3 y0 z0 z1 z2 z3 : Int} (h : CN F n s t m2 m3) (hz : Sol F n s t z0 z1 z2 z3) (h0 : 0 ≤ y0 ∧ y0 ≤ 41) (p : Pn n y0 0 0 0 ≤ Pn n z0 z1 z2 z3) : y0 ≤ z0 := by
  obtain ⟨-, -, hn, -, -, a2, a3⟩ := h
  obtain ⟨b0, b1, b2, b3, e2, e3, -, -⟩ := hz
  rcases (show n = 2 ∨ n = 3 ∨ n = 4 by omega) with rfl | rfl | rfl
  · have := e2 (by decide); have := e3 (by decide)
    unfold Pn at p
    simp only [show ¬ (2 : Int) = 4 by decide, show ¬ (2 : Int) = 3 by decide, if_false] at p
    omega
  · have := e3 (by decide)
    unfold Pn at p
    simp only [show ¬ (3 : Int) = 4 by decide, if_false, if_true] at p
    omega
  · unfold Pn at p
    simp only [if_true] at p
    omega
section COUNT
variable {d n0 : Nat} {Q : PQ} {I : IE} {F : FE} {n s t m2 m3 y0 y1 y2 : Int}
theorem lc3 (hd : 1 ≤ d) (h : CN F n s t m2 m3) (h0 : 0 ≤ y0 ∧ y0 ≤ 40) (h1 : 0 ≤ y1 ∧ y1 ≤ 40) (h2 : 0 ≤ y2 ∧ y2 ≤ m2)
    (K : ∀ x c, LC F n s t (Pn n y0 y1 (y2 + 1) 0) c → WS mL_count d 0 0 n0 Q 0 0 259 [lr 62, li s, li t, li c, li 40, li m2, li m3, li y0, li y1, li y2, x] [] shL I F) :
    ∀ (m k : Nat) (c : Int), (k + m : Int) = m3 + 1 → LC F n s t (Pn n y0 y1 y2 k) c → WS mL_count d 0 0 n0 Q 0 0 170 [lr 62, li s, li t, li c, li 40, li m2, li m3, li y0, li y1, li y2, li k] [] shL I F := by
  have h' := h
  obtain ⟨hA, hP, hn, hs, ht, a2, a3⟩ := h'
  have ple : ∀ k : Int, 0 ≤ k ∧ k ≤ m3 + 1 → Pn n y0 y1 y2 k ≤ Pn n y0 y1 (y2 + 1) 0 := fun k hk => by
    unfold Pn
    split
    · omega
    · split <;> omega
  have out : ∀ (k : Int) (c : Int), 0 ≤ k ∧ k ≤ m3 + 1 → LC F n s t (Pn n y0 y1 y2 k) c → ¬ (pdt F 0 y0 y1 y2 k ≤ s ∧ pdt F 1 y0 y1 y2 k ≤ t ∧ k ≤ m3) → LC F n s t (Pn n y0 y1 (y2 + 1) 0) c := fun k c hk hc hx =>
    hc.skip (ple k hk) (fun z0 z1 z2 z3 hz p q => hx (by
      obtain ⟨rfl, rfl, rfl, e⟩ := h.d3 hz h0 h1 h2 hk p q
      have := h.in hz (Int.le_refl _) (Int.le_refl _) (Int.le_refl _) e
      exact ⟨this.1, this.2.1, this.2.2.2.2.2⟩))
  intro m
  induction m with
  | zero =>
    intro k c hk hc
    refine w_iload iL_count_170 rfl ?_
    refine w_iload iL_count_172 rfl ?_
    refine w_icmpgt iL_count_174 (fun h174 => ?_) (fun h_ => absurd h_ (by omega))
    exact K _ _ (out k c (by omega) hc (fun z => by omega))
  | succ m ih =>
    intro k c hk hc
    have hcb := hc.le (Pn_b (by omega) (by omega) (by omega) (by omega)).1
    have hpb := (Pn_b (n := n) (y0 := y0) (y1 := y1) (y2 := y2) (y3 := k) (by omega) (by omega) (by omega) (by omega)).2
    have no : ¬ (pdt F 0 y0 y1 y2 k = s ∧ pdt F 1 y0 y1 y2 k = t) → LC F n s t (Pn n y0 y1 y2 (k + 1 : Int)) (c + 0) := fun hx => by
      rw [Int.add_zero]
      refine hc.skip (by rw [Pn_s]; omega) (fun z0 z1 z2 z3 hz p q => hx ?_)
      rw [Pn_s] at q
      obtain ⟨rfl, rfl, rfl, e⟩ := h.d3 hz h0 h1 h2 (y3 := k) (by omega) p (by have := ple (k + 1) (by omega); rw [Pn_s] at this; omega)
      have e3 : (k : Int) = z3 := by
        unfold Pn at p q
        split at p
        · omega
        · split at p <;> omega
      rw [e3]
      exact ⟨hz.2.2.2.2.2.2.1, hz.2.2.2.2.2.2.2⟩
    have yes : pdt F 0 y0 y1 y2 k = s → pdt F 1 y0 y1 y2 k = t → LC F n s t (Pn n y0 y1 y2 (k + 1 : Int)) (c + 1) := fun e1 e2 => by
      rw [Pn_s]
      exact hc.put ⟨by omega, by omega, by omega, by omega, fun _ => by omega, fun _ => by omega, e1, e2⟩ rfl
    refine w_iload iL_count_170 rfl ?_
    refine w_iload iL_count_172 rfl ?_
    refine w_icmpgt iL_count_174 (fun h_ => absurd h_ (by omega)) (fun h174 => ?_)
    refine w_aload iL_count_177 rfl ?_
    refine w_const iL_count_178 ?_
    refine w_iload iL_count_179 rfl ?_
    refine w_iload iL_count_181 rfl ?_
    refine w_iload iL_count_183 rfl ?_
    refine w_iload iL_count_185 rfl ?_
    refine w_cSR iL_count_187 fL_product vL_product (sL_product (by decide) hA (by omega) (by omega) (by omega) (by omega)) rfl rfl (Nat.le_of_ble_eq_true rfl) (by omega) ?_
    refine w_iload iL_count_190 rfl ?_
    refine w_icmpgt iL_count_191 (fun h191 => ?_) (fun h191 => ?_)
    · first
      | exact K _ _ (out k c (by omega) hc (fun z => by have := h191; omega))
      | exact K _ _ (out k c (by omega) hc (fun z => by have := h208; omega))
      | show 2 = 3
    · refine w_aload iL_count_194 rfl ?_
      refine w_const iL_count_195 ?_
      refine w_iload iL_count_196 rfl ?_
      refine w_iload iL_count_198 rfl ?_
      refine w_iload iL_count_200 rfl ?_
      refine w_iload iL_count_202 rfl ?_
      refine w_cSR iL_count_204 fL_product vL_product (sL_product (by decide) hA (by omega) (by omega) (by omega) (by omega)) rfl rfl (Nat.le_of_ble_eq_true rfl) (by omega) ?_
      refine w_iload iL_count_207 rfl ?_
      refine w_icmpgt iL_count_208 (fun h208 => ?_) (fun h208 => ?_)
      · first
        | exact K _ _ (out k c (by omega) hc (fun z => by have := h191; omega))
        | exact K _ _ (out k c (by omega) hc (fun z => by have := h208; omega))
        | show 2 = 3
      · refine w_iload iL_count_211 rfl ?_
        refine w_aload iL_count_212 rfl ?_
        refine w_const iL_count_213 ?_
        refine w_iload iL_count_214 rfl ?_
        refine w_iload iL_count_216 rfl ?_
        refine w_iload iL_count_218 rfl ?_
        refine w_iload iL_count_220 rfl ?_
        refine w_cSR iL_count_222 fL_product vL_product (sL_product (by decide) hA (by omega) (by omega) (by omega) (by omega)) rfl rfl (Nat.le_of_ble_eq_true rfl) (by omega) ?_
        refine w_iload iL_count_225 rfl ?_
        refine w_icmpne iL_count_226 (fun h226 => ?_) (fun h226 => ?_)
        · refine w_const iL_count_250 ?_
          refine w_iadd iL_count_251 (by omega) ?_
          refine w_is3 iL_count_252 ?_
          refine w_ii10 iL_count_253 (by omega) ?_
          refine w_goto iL_count_256 ?_
          first
          | exact ih (k + 1) _ (by omega) (no (fun z => h226 z.1))
          | exact ih (k + 1) _ (by omega) (no (fun z => h243 z.2))
          | exact ih (k + 1) _ (by omega) (yes h226 h243)
          | show 2 = 3
        · refine w_aload iL_count_229 rfl ?_
          refine w_const iL_count_230 ?_
          refine w_iload iL_count_231 rfl ?_
          refine w_iload iL_count_233 rfl ?_
          refine w_iload iL_count_235 rfl ?_
          refine w_iload iL_count_237 rfl ?_
          refine w_cSR iL_count_239 fL_product vL_product (sL_product (by decide) hA (by omega) (by omega) (by omega) (by omega)) rfl rfl (Nat.le_of_ble_eq_true rfl) (by omega) ?_
          refine w_iload iL_count_242 rfl ?_
          refine w_icmpne iL_count_243 (fun h243 => ?_) (fun h243 => ?_)
          · refine w_const iL_count_250 ?_
            refine w_iadd iL_count_251 (by omega) ?_
            refine w_is3 iL_count_252 ?_
            refine w_ii10 iL_count_253 (by omega) ?_
            refine w_goto iL_count_256 ?_
            first
            | exact ih (k + 1) _ (by omega) (no (fun z => h226 z.1))
            | exact ih (k + 1) _ (by omega) (no (fun z => h243 z.2))
            | exact ih (k + 1) _ (by omega) (yes h226 h243)
            | show 2 = 3
          · refine w_const iL_count_246 ?_
            refine w_goto iL_count_247 ?_
            refine w_iadd iL_count_251 (by omega) ?_
            refine w_is3 iL_count_252 ?_
            refine w_ii10 iL_count_253 (by omega) ?_
            refine w_goto iL_count_256 ?_
            first
            | exact ih (k + 1) _ (by omega) (no (fun z => h226 z.1))
            | exact ih (k + 1) _ (by omega) (no (fun z => h243 z.2))
            | exact ih (k + 1) _ (by omega) (yes h226 h243)
            | show 2 = 3
theorem lc2 (hd : 1 ≤ d) (h : CN F n s t m2 m3) (h0 : 0 ≤ y0 ∧ y0 ≤ 40) (h1 : 0 ≤ y1 ∧ y1 ≤ 40)
    (K : ∀ x x' c, LC F n s t (Pn n y0 (y1 + 1) 0 0) c → WS mL_count d 0 0 n0 Q 0 0 265 [lr 62, li s, li t, li c, li 40, li m2, li m3, li y0, li y1, x, x'] [] shL I F) :
    ∀ (m k : Nat) (x' : Option AV) (c : Int), (k + m : Int) = m2 + 1 → LC F n s t (Pn n y0 y1 k 0) c → WS mL_count d 0 0 n0 Q 0 0 128 [lr 62, li s, li t, li c, li 40, li m2, li m3, li y0, li y1, li k, x'] [] shL I F := by
  have h' := h
  obtain ⟨hA, hP, hn, hs, ht, a2, a3⟩ := h'
  have ple : ∀ k : Int, 0 ≤ k ∧ k ≤ m2 + 1 → Pn n y0 y1 k 0 ≤ Pn n y0 (y1 + 1) 0 0 := fun k hk => by
    unfold Pn
    split
    · omega
    · split <;> omega
  have out : ∀ (k : Int) (c : Int), 0 ≤ k ∧ k ≤ m2 + 1 → LC F n s t (Pn n y0 y1 k 0) c → ¬ (pdt F 0 y0 y1 k 0 ≤ s ∧ pdt F 1 y0 y1 k 0 ≤ t ∧ k ≤ m2) → LC F n s t (Pn n y0 (y1 + 1) 0 0) c := fun k c hk hc hx =>
    hc.skip (ple k hk) (fun z0 z1 z2 z3 hz p q => hx (by
      obtain ⟨rfl, rfl, e⟩ := h.d2 hz h0 h1 hk p q
      have := h.in hz (Int.le_refl _) (Int.le_refl _) e hz.2.2.2.1.1
      exact ⟨this.1, this.2.1, this.2.2.2.2.1⟩))
  intro m
  induction m with
  | zero =>
    intro k x' c hk hc
    refine w_iload iL_count_128 rfl ?_
    refine w_iload iL_count_130 rfl ?_
    refine w_icmpgt iL_count_132 (fun h132 => ?_) (fun h_ => absurd h_ (by omega))
    exact K _ _ _ (out k c (by omega) hc (fun z => by omega))
  | succ m ih =>
    intro k x' c hk hc
    have next : ∀ (x : Option AV) (c' : Int), LC F n s t (Pn n y0 y1 (k + 1 : Int) 0) c' → WS mL_count d 0 0 n0 Q 0 0 259 [lr 62, li s, li t, li c', li 40, li m2, li m3, li y0, li y1, li k, x] [] shL I F := fun x c' hc' => by
      refine w_ii9 iL_count_259 (by omega) ?_
      refine w_goto iL_count_262 ?_
      exact ih (k + 1) _ _ (by omega) hc'
    refine w_iload iL_count_128 rfl ?_
    refine w_iload iL_count_130 rfl ?_
    refine w_icmpgt iL_count_132 (fun h_ => absurd h_ (by omega)) (fun h132 => ?_)
    refine w_aload iL_count_135 rfl ?_
    refine w_const iL_count_136 ?_
    refine w_iload iL_count_137 rfl ?_
    refine w_iload iL_count_139 rfl ?_
    refine w_iload iL_count_141 rfl ?_
    refine w_const iL_count_143 ?_
    refine w_cSR iL_count_144 fL_product vL_product (sL_product (by decide) hA (by omega) (by omega) (by omega) (by decide)) rfl rfl (Nat.le_of_ble_eq_true rfl) (by omega) ?_
    refine w_iload iL_count_147 rfl ?_
    refine w_icmpgt iL_count_148 (fun h148 => ?_) (fun h148 => ?_)
    · first
      | exact K _ _ _ (out k c (by omega) hc (fun z => by have := h148; omega))
      | exact K _ _ _ (out k c (by omega) hc (fun z => by have := h164; omega))
      | show 2 = 3
    · refine w_aload iL_count_151 rfl ?_
      refine w_const iL_count_152 ?_
      refine w_iload iL_count_153 rfl ?_
      refine w_iload iL_count_155 rfl ?_
      refine w_iload iL_count_157 rfl ?_
      refine w_const iL_count_159 ?_
      refine w_cSR iL_count_160 fL_product vL_product (sL_product (by decide) hA (by omega) (by omega) (by omega) (by decide)) rfl rfl (Nat.le_of_ble_eq_true rfl) (by omega) ?_
      refine w_iload iL_count_163 rfl ?_
      refine w_icmpgt iL_count_164 (fun h164 => ?_) (fun h164 => ?_)
      · first
        | exact K _ _ _ (out k c (by omega) hc (fun z => by have := h148; omega))
        | exact K _ _ _ (out k c (by omega) hc (fun z => by have := h164; omega))
        | show 2 = 3
      · refine w_const iL_count_167 ?_
        refine w_is10 iL_count_168 ?_
        exact lc3 hd h h0 h1 (y2 := k) (by omega) next (m3 + 1).toNat 0 c (by omega) hc
theorem lc1 (hd : 1 ≤ d) (h : CN F n s t m2 m3) (h0 : 0 ≤ y0 ∧ y0 ≤ 40)
    (K : ∀ x x' x'' c, LC F n s t (Pn n (y0 + 1) 0 0 0) c → WS mL_count d 0 0 n0 Q 0 0 271 [lr 62, li s, li t, li c, li 40, li m2, li m3, li y0, x, x', x''] [] shL I F) :
    ∀ (m k : Nat) (x' x'' : Option AV) (c : Int), (k + m : Int) = 41 → LC F n s t (Pn n y0 k 0 0) c → WS mL_count d 0 0 n0 Q 0 0 88 [lr 62, li s, li t, li c, li 40, li m2, li m3, li y0, li k, x', x''] [] shL I F := by
  have h' := h
  obtain ⟨hA, hP, hn, hs, ht, a2, a3⟩ := h'
  have ple : ∀ k : Int, 0 ≤ k ∧ k ≤ 41 → Pn n y0 k 0 0 ≤ Pn n (y0 + 1) 0 0 0 := fun k hk => by
    unfold Pn
    split
    · omega
    · split <;> omega
  have out : ∀ (k : Int) (c : Int), 0 ≤ k ∧ k ≤ 41 → LC F n s t (Pn n y0 k 0 0) c → ¬ (pdt F 0 y0 k 0 0 ≤ s ∧ pdt F 1 y0 k 0 0 ≤ t ∧ k ≤ 40) → LC F n s t (Pn n (y0 + 1) 0 0 0) c := fun k c hk hc hx =>
    hc.skip (ple k hk) (fun z0 z1 z2 z3 hz p q => hx (by
      obtain ⟨rfl, e⟩ := h.d1 hz h0 hk p q
      have := h.in hz (Int.le_refl _) e hz.2.2.1.1 hz.2.2.2.1.1
      exact ⟨this.1, this.2.1, this.2.2.2.1⟩))
  intro m
  induction m with
  | zero =>
    intro k x' x'' c hk hc
    refine w_iload iL_count_88 rfl ?_
    refine w_iload iL_count_90 rfl ?_
    refine w_icmpgt iL_count_92 (fun h92 => ?_) (fun h_ => absurd h_ (by omega))
    exact K _ _ _ _ (out k c (by omega) hc (fun z => by omega))
  | succ m ih =>
    intro k x' x'' c hk hc
    have next : ∀ (x x' : Option AV) (c' : Int), LC F n s t (Pn n y0 (k + 1 : Int) 0 0) c' → WS mL_count d 0 0 n0 Q 0 0 265 [lr 62, li s, li t, li c', li 40, li m2, li m3, li y0, li k, x, x'] [] shL I F := fun x x' c' hc' => by
      refine w_ii8 iL_count_265 (by omega) ?_
      refine w_goto iL_count_268 ?_
      exact ih (k + 1) _ _ _ (by omega) hc'
    refine w_iload iL_count_88 rfl ?_
    refine w_iload iL_count_90 rfl ?_
    refine w_icmpgt iL_count_92 (fun h_ => absurd h_ (by omega)) (fun h92 => ?_)
    refine w_aload iL_count_95 rfl ?_
    refine w_const iL_count_96 ?_
    refine w_iload iL_count_97 rfl ?_
    refine w_iload iL_count_99 rfl ?_
    refine w_const iL_count_101 ?_
    refine w_const iL_count_102 ?_
    refine w_cSR iL_count_103 fL_product vL_product (sL_product (by decide) hA (by omega) (by omega) (by decide) (by decide)) rfl rfl (Nat.le_of_ble_eq_true rfl) (by omega) ?_
    refine w_iload iL_count_106 rfl ?_
    refine w_icmpgt iL_count_107 (fun h107 => ?_) (fun h107 => ?_)
    · first
      | exact K _ _ _ _ (out k c (by omega) hc (fun z => by have := h107; omega))
      | exact K _ _ _ _ (out k c (by omega) hc (fun z => by have := h122; omega))
      | show 2 = 3
    · refine w_aload iL_count_110 rfl ?_
      refine w_const iL_count_111 ?_
      refine w_iload iL_count_112 rfl ?_
      refine w_iload iL_count_114 rfl ?_
      refine w_const iL_count_116 ?_
      refine w_const iL_count_117 ?_
      refine w_cSR iL_count_118 fL_product vL_product (sL_product (by decide) hA (by omega) (by omega) (by decide) (by decide)) rfl rfl (Nat.le_of_ble_eq_true rfl) (by omega) ?_
      refine w_iload iL_count_121 rfl ?_
      refine w_icmpgt iL_count_122 (fun h122 => ?_) (fun h122 => ?_)
      · first
        | exact K _ _ _ _ (out k c (by omega) hc (fun z => by have := h107; omega))
        | exact K _ _ _ _ (out k c (by omega) hc (fun z => by have := h122; omega))
        | show 2 = 3
      · refine w_const iL_count_125 ?_
        refine w_is9 iL_count_126 ?_
        exact lc2 hd h h0 (y1 := k) (by omega) next (m2 + 1).toNat 0 _ c (by omega) hc
theorem lc0 (hd : 1 ≤ d) (h : CN F n s t m2 m3)
    (K : ∀ x x' x'' x3 c, LC F n s t 268435456 c → WS mL_count d 0 0 n0 Q 0 0 277 [lr 62, li s, li t, li c, li 40, li m2, li m3, x, x', x'', x3] [] shL I F) :
    ∀ (m k : Nat) (x' x'' x3 : Option AV) (c : Int), (k + m : Int) = 41 → LC F n s t (Pn n k 0 0 0) c → WS mL_count d 0 0 n0 Q 0 0 50 [lr 62, li s, li t, li c, li 40, li m2, li m3, li k, x', x'', x3] [] shL I F := by
  have h' := h
  obtain ⟨hA, hP, hn, hs, ht, a2, a3⟩ := h'
  have out : ∀ (k : Int) (c : Int), 0 ≤ k ∧ k ≤ 41 → LC F n s t (Pn n k 0 0 0) c → ¬ (pdt F 0 k 0 0 0 ≤ s ∧ pdt F 1 k 0 0 0 ≤ t ∧ k ≤ 40) → LC F n s t 268435456 c := fun k c hk hc hx =>
    hc.skip (by have := (Pn_b (n := n) (y0 := k) (y1 := 0) (y2 := 0) (y3 := 0) (by omega) (by decide) (by decide) (by decide)).2; omega) (fun z0 z1 z2 z3 hz p q => hx (by
      have e := h.d0 hz hk p
      have := h.in hz e hz.2.1.1 hz.2.2.1.1 hz.2.2.2.1.1
      exact ⟨this.1, this.2.1, this.2.2.1⟩))
  intro m
  induction m with
  | zero =>
    intro k x' x'' x3 c hk hc
    refine w_iload iL_count_50 rfl ?_
    refine w_const iL_count_52 ?_
    refine w_icmpgt iL_count_54 (fun h54 => ?_) (fun h_ => absurd h_ (by omega))
    exact K _ _ _ _ _ (out k c (by omega) hc (fun z => by omega))
  | succ m ih =>
    intro k x' x'' x3 c hk hc
    have next : ∀ (x x' x'' : Option AV) (c' : Int), LC F n s t (Pn n (k + 1 : Int) 0 0 0) c' → WS mL_count d 0 0 n0 Q 0 0 271 [lr 62, li s, li t, li c', li 40, li m2, li m3, li k, x, x', x''] [] shL I F := fun x x' x'' c' hc' => by
      refine w_ii7 iL_count_271 (by omega) ?_
      refine w_goto iL_count_274 ?_
      exact ih (k + 1) _ _ _ _ (by omega) hc'
    refine w_iload iL_count_50 rfl ?_
    refine w_const iL_count_52 ?_
    refine w_icmpgt iL_count_54 (fun h_ => absurd h_ (by omega)) (fun h54 => ?_)
    refine w_aload iL_count_57 rfl ?_
    refine w_const iL_count_58 ?_
    refine w_iload iL_count_59 rfl ?_
    refine w_const iL_count_61 ?_
    refine w_const iL_count_62 ?_
    refine w_const iL_count_63 ?_
    refine w_cSR iL_count_64 fL_product vL_product (sL_product (by decide) hA (by omega) (by decide) (by decide) (by decide)) rfl rfl (Nat.le_of_ble_eq_true rfl) (by omega) ?_
    refine w_iload iL_count_67 rfl ?_
    refine w_icmpgt iL_count_68 (fun h68 => ?_) (fun h68 => ?_)
    · first
      | exact K _ _ _ _ _ (out k c (by omega) hc (fun z => by have := h68; omega))
      | exact K _ _ _ _ _ (out k c (by omega) hc (fun z => by have := h82; omega))
      | show 2 = 3
    · refine w_aload iL_count_71 rfl ?_
      refine w_const iL_count_72 ?_
      refine w_iload iL_count_73 rfl ?_
      refine w_const iL_count_75 ?_
      refine w_const iL_count_76 ?_
      refine w_const iL_count_77 ?_
      refine w_cSR iL_count_78 fL_product vL_product (sL_product (by decide) hA (by omega) (by decide) (by decide) (by decide)) rfl rfl (Nat.le_of_ble_eq_true rfl) (by omega) ?_
      refine w_iload iL_count_81 rfl ?_
      refine w_icmpgt iL_count_82 (fun h82 => ?_) (fun h82 => ?_)
      · first
        | exact K _ _ _ _ _ (out k c (by omega) hc (fun z => by have := h68; omega))
        | exact K _ _ _ _ _ (out k c (by omega) hc (fun z => by have := h82; omega))
        | show 2 = 3
      · refine w_const iL_count_85 ?_
        refine w_is8 iL_count_86 ?_
        exact lc1 hd h (y0 := k) (by omega) next 41 0 _ _ c (by omega) hc
theorem sL_count (hd : 1 ≤ d) (hn : F 62 1 = n) (h : CN F n s t (if 2 < n then 40 else 0) (if 3 < n then 40 else 0)) : MP mL_count d shL [rv 62, iv s, iv t] I F (LC F n s t 268435456) := by
  have hn2 := h.2.2.1
  have z0 : LC F n s t (Pn n ((0 : Nat) : Int) 0 0 0) 0 := by
    refine ⟨fun _ => 0, by decide, fun i j hij => absurd hij (by omega), fun x => ⟨fun ⟨i, hi⟩ => absurd hi (by omega), fun ⟨a, b, c, e, h1, h2, h3⟩ => ?_⟩⟩
    have := (Pn_b (n := n) h1.1 h1.2.1 h1.2.2.1 h1.2.2.2.1).1
    have e0 : Pn n ((0 : Nat) : Int) 0 0 0 = 0 := by unfold Pn; split; rfl; split <;> rfl
    rw [e0] at h2
    omega
  refine MS_of (ls := [lr 62, li s, li t, lu, lu, lu, lu, lu, lu, lu, lu]) fL_count rfl rfl (Nat.le_of_ble_eq_true rfl) ?_
  refine w_const iL_count_0 ?_
  refine w_is3 iL_count_1 ?_
  refine w_aload iL_count_2 rfl ?_
  refine w_const iL_count_3 ?_
  refine w_iald iL_count_4 sL62 (by omega) ?_
  rw [hn]
  refine w_const iL_count_5 ?_
  refine w_icmple iL_count_6 (fun h_ => absurd h_ (by omega)) (fun h6 => ?_)
  refine w_const iL_count_9 ?_
  refine w_goto iL_count_11 ?_
  refine w_is4 iL_count_15 ?_
  refine w_aload iL_count_17 rfl ?_
  refine w_const iL_count_18 ?_
  refine w_iald iL_count_19 sL62 (by omega) ?_
  rw [hn]
  refine w_const iL_count_20 ?_
  refine w_icmple iL_count_21 (fun h21 => ?_) (fun h21 => ?_)
  · refine w_const iL_count_29 ?_
    refine w_is5 iL_count_30 ?_
    refine w_aload iL_count_32 rfl ?_
    refine w_const iL_count_33 ?_
    refine w_iald iL_count_34 sL62 (by omega) ?_
    rw [hn]
    refine w_const iL_count_35 ?_
    refine w_icmple iL_count_36 (fun h36 => ?_) (fun h36 => ?_)
    · refine w_const iL_count_44 ?_
      refine w_is6 iL_count_45 ?_
      refine w_const iL_count_47 ?_
      refine w_is7 iL_count_48 ?_
      first
      | (have g3 : 3 < n := by omega
         rw [if_pos (show 2 < n by omega), if_pos g3] at h
         exact lc0 hd h (fun x x' x'' x3 c hc => by
           refine w_iload iL_count_277 rfl ?_
           refine w_iret iL_count_278 (Or.inl rfl) ⟨Nat.le_refl _, Nat.le_refl _⟩ ?_
           exact ⟨rfl, _, rfl, hc, rfl, rfl⟩) 41 0 _ _ _ 0 (by decide) z0)
      | (have g2 : 2 < n := by omega
         have g3 : ¬ 3 < n := by omega
         rw [if_pos g2, if_neg g3] at h
         exact lc0 hd h (fun x x' x'' x3 c hc => by
           refine w_iload iL_count_277 rfl ?_
           refine w_iret iL_count_278 (Or.inl rfl) ⟨Nat.le_refl _, Nat.le_refl _⟩ ?_
           exact ⟨rfl, _, rfl, hc, rfl, rfl⟩) 41 0 _ _ _ 0 (by decide) z0)
      | (have g2 : ¬ 2 < n := by omega
         have g3 : ¬ 3 < n := by omega
         rw [if_neg g2, if_neg g3] at h
         exact lc0 hd h (fun x x' x'' x3 c hc => by
           refine w_iload iL_count_277 rfl ?_
           refine w_iret iL_count_278 (Or.inl rfl) ⟨Nat.le_refl _, Nat.le_refl _⟩ ?_
           exact ⟨rfl, _, rfl, hc, rfl, rfl⟩) 41 0 _ _ _ 0 (by decide) z0)
      | exact absurd h21 (by omega)
      | show 2 = 3
    · refine w_const iL_count_39 ?_
      refine w_goto iL_count_41 ?_
      refine w_is6 iL_count_45 ?_
      refine w_const iL_count_47 ?_
      refine w_is7 iL_count_48 ?_
      first
      | (have g3 : 3 < n := by omega
         rw [if_pos (show 2 < n by omega), if_pos g3] at h
         exact lc0 hd h (fun x x' x'' x3 c hc => by
           refine w_iload iL_count_277 rfl ?_
           refine w_iret iL_count_278 (Or.inl rfl) ⟨Nat.le_refl _, Nat.le_refl _⟩ ?_
           exact ⟨rfl, _, rfl, hc, rfl, rfl⟩) 41 0 _ _ _ 0 (by decide) z0)
      | (have g2 : 2 < n := by omega
         have g3 : ¬ 3 < n := by omega
         rw [if_pos g2, if_neg g3] at h
         exact lc0 hd h (fun x x' x'' x3 c hc => by
           refine w_iload iL_count_277 rfl ?_
           refine w_iret iL_count_278 (Or.inl rfl) ⟨Nat.le_refl _, Nat.le_refl _⟩ ?_
           exact ⟨rfl, _, rfl, hc, rfl, rfl⟩) 41 0 _ _ _ 0 (by decide) z0)
      | (have g2 : ¬ 2 < n := by omega
         have g3 : ¬ 3 < n := by omega
         rw [if_neg g2, if_neg g3] at h
         exact lc0 hd h (fun x x' x'' x3 c hc => by
           refine w_iload iL_count_277 rfl ?_
           refine w_iret iL_count_278 (Or.inl rfl) ⟨Nat.le_refl _, Nat.le_refl _⟩ ?_
           exact ⟨rfl, _, rfl, hc, rfl, rfl⟩) 41 0 _ _ _ 0 (by decide) z0)
      | exact absurd h21 (by omega)
      | show 2 = 3
  · refine w_const iL_count_24 ?_
    refine w_goto iL_count_26 ?_
    refine w_is5 iL_count_30 ?_
    refine w_aload iL_count_32 rfl ?_
    refine w_const iL_count_33 ?_
    refine w_iald iL_count_34 sL62 (by omega) ?_
    rw [hn]
    refine w_const iL_count_35 ?_
    refine w_icmple iL_count_36 (fun h36 => ?_) (fun h36 => ?_)
    · refine w_const iL_count_44 ?_
      refine w_is6 iL_count_45 ?_
      refine w_const iL_count_47 ?_
      refine w_is7 iL_count_48 ?_
      first
      | (have g3 : 3 < n := by omega
         rw [if_pos (show 2 < n by omega), if_pos g3] at h
         exact lc0 hd h (fun x x' x'' x3 c hc => by
           refine w_iload iL_count_277 rfl ?_
           refine w_iret iL_count_278 (Or.inl rfl) ⟨Nat.le_refl _, Nat.le_refl _⟩ ?_
           exact ⟨rfl, _, rfl, hc, rfl, rfl⟩) 41 0 _ _ _ 0 (by decide) z0)
      | (have g2 : 2 < n := by omega
         have g3 : ¬ 3 < n := by omega
         rw [if_pos g2, if_neg g3] at h
         exact lc0 hd h (fun x x' x'' x3 c hc => by
           refine w_iload iL_count_277 rfl ?_
           refine w_iret iL_count_278 (Or.inl rfl) ⟨Nat.le_refl _, Nat.le_refl _⟩ ?_
           exact ⟨rfl, _, rfl, hc, rfl, rfl⟩) 41 0 _ _ _ 0 (by decide) z0)
      | (have g2 : ¬ 2 < n := by omega
         have g3 : ¬ 3 < n := by omega
         rw [if_neg g2, if_neg g3] at h
         exact lc0 hd h (fun x x' x'' x3 c hc => by
           refine w_iload iL_count_277 rfl ?_
           refine w_iret iL_count_278 (Or.inl rfl) ⟨Nat.le_refl _, Nat.le_refl _⟩ ?_
           exact ⟨rfl, _, rfl, hc, rfl, rfl⟩) 41 0 _ _ _ 0 (by decide) z0)
      | exact absurd h21 (by omega)
      | show 2 = 3
    · refine w_const iL_count_39 ?_
      refine w_goto iL_count_41 ?_
      refine w_is6 iL_count_45 ?_
      refine w_const iL_count_47 ?_
      refine w_is7 iL_count_48 ?_
      first
      | (have g3 : 3 < n := by omega
         rw [if_pos (show 2 < n by omega), if_pos g3] at h
         exact lc0 hd h (fun x x' x'' x3 c hc => by
           refine w_iload iL_count_277 rfl ?_
           refine w_iret iL_count_278 (Or.inl rfl) ⟨Nat.le_refl _, Nat.le_refl _⟩ ?_
           exact ⟨rfl, _, rfl, hc, rfl, rfl⟩) 41 0 _ _ _ 0 (by decide) z0)
      | (have g2 : 2 < n := by omega
         have g3 : ¬ 3 < n := by omega
         rw [if_pos g2, if_neg g3] at h
         exact lc0 hd h (fun x x' x'' x3 c hc => by
           refine w_iload iL_count_277 rfl ?_
           refine w_iret iL_count_278 (Or.inl rfl) ⟨Nat.le_refl _, Nat.le_refl _⟩ ?_
           exact ⟨rfl, _, rfl, hc, rfl, rfl⟩) 41 0 _ _ _ 0 (by decide) z0)
      | (have g2 : ¬ 2 < n := by omega
         have g3 : ¬ 3 < n := by omega
         rw [if_neg g2, if_neg g3] at h
         exact lc0 hd h (fun x x' x'' x3 c hc => by
           refine w_iload iL_count_277 rfl ?_
           refine w_iret iL_count_278 (Or.inl rfl) ⟨Nat.le_refl _, Nat.le_refl _⟩ ?_
           exact ⟨rfl, _, rfl, hc, rfl, rfl⟩) 41 0 _ _ _ 0 (by decide) z0)
      | exact absurd h21 (by omega)
      | show 2 = 3
end COUNT
/-- the count is the fiber's size -/
theorem LC.fin {S : Sx} {F : FE} {Y : Int → Int} {m : Int} (hS : SF S) (hM : MA S F) (hp : Pos (gM S.1) (gC S.1)) (h : LC F (gC S.1) (dt (gM S.1) Y 0 (gC S.1).toNat) (dt (gM S.1) Y 1 (gC S.1).toNat) 268435456 m) : m = fbm (gM S.1) (gC S.1) Y := by
  have hn := hS.1.2.1
  have hz := hS.1.2.2.2.1
  generalize hs : dt (gM S.1) Y 0 (gC S.1).toNat = s at h
  generalize ht : dt (gM S.1) Y 1 (gC S.1).toNat = t at h
  have e : ∀ j, 0 ≤ j ∧ j < 8 → F 62 (2 + j) = gM S.1 j := hM.2.2
  have z : ∀ j, 0 ≤ j ∧ j < 8 → gC S.1 ≤ j % 4 → gM S.1 j = 0 := fun j hj hc => hz j (Or.inr (Or.inr (Or.inl hc)))
  generalize gM S.1 = M at *
  generalize gC S.1 = n at *
  have dtp : ∀ (r : Int) (w : Int → Int), 0 ≤ r ∧ r ≤ 1 → pdt F r (w 0) (w 1) (if 2 < n then w 2 else 0) (if 3 < n then w 3 else 0) = dt M w r n.toNat := fun r w hr => by
    unfold pdt
    rw [show (2 : Int) + 4 * r = 2 + (r * 4 + 0) by omega, show (3 : Int) + 4 * r = 2 + (r * 4 + 1) by omega, show (4 : Int) + 4 * r = 2 + (r * 4 + 2) by omega, show (5 : Int) + 4 * r = 2 + (r * 4 + 3) by omega, e _ (by omega), e _ (by omega), e _ (by omega), e _ (by omega)]
    rcases (show n = 2 ∨ n = 3 ∨ n = 4 by omega) with rfl | rfl | rfl
    · show M (r * 4 + 0) * w 0 + M (r * 4 + 1) * w 1 + M (r * 4 + 2) * 0 + M (r * 4 + 3) * 0 = 0 + M (r * 4 + 0) * w 0 + M (r * 4 + 1) * w 1
      omega
    · show M (r * 4 + 0) * w 0 + M (r * 4 + 1) * w 1 + M (r * 4 + 2) * w 2 + M (r * 4 + 3) * 0 = 0 + M (r * 4 + 0) * w 0 + M (r * 4 + 1) * w 1 + M (r * 4 + 2) * w 2
      omega
    · show M (r * 4 + 0) * w 0 + M (r * 4 + 1) * w 1 + M (r * 4 + 2) * w 2 + M (r * 4 + 3) * w 3 = 0 + M (r * 4 + 0) * w 0 + M (r * 4 + 1) * w 1 + M (r * 4 + 2) * w 2 + M (r * 4 + 3) * w 3
      omega
  have pk : ∀ w : Int → Int, pkn w n.toNat = Pn n (w 0) (w 1) (if 2 < n then w 2 else 0) (if 3 < n then w 3 else 0) := fun w => by
    rcases (show n = 2 ∨ n = 3 ∨ n = 4 by omega) with rfl | rfl | rfl
    · show (0 * 128 + w 0) * 128 + w 1 = w 0 * 128 + w 1 + 0 + 0
      omega
    · show ((0 * 128 + w 0) * 128 + w 1) * 128 + w 2 = (w 0 * 128 + w 1) * 128 + w 2 + 0
      omega
    · show (((0 * 128 + w 0) * 128 + w 1) * 128 + w 2) * 128 + w 3 = ((w 0 * 128 + w 1) * 128 + w 2) * 128 + w 3
      omega
  obtain ⟨f, h0, h1, h2⟩ := h
  have hF : FibP M n Y (m, f) := by
    refine ⟨h0, h1, fun x => ?_⟩
    show (∃ i, 0 ≤ i ∧ i < m ∧ f i = x) ↔ _
    rw [h2 x, hs, ht]
    constructor
    · rintro ⟨z0, z1, z2, z3, ⟨b0, b1, b2, b3, c2, c3, p0, p1⟩, hq, rfl⟩
      have hw : FSn M n s t (fun j => if j = 0 then z0 else if j = 1 then z1 else if j = 2 then z2 else z3) := by
        refine ⟨fun j hj => ?_, ?_, ?_⟩
        · dsimp only
          split
          · exact b0
          · split
            · exact b1
            · split
              · exact b2
              · exact b3
        · rw [← dtp 0 _ (by decide), ← p0]
          show pdt F 0 z0 z1 (if 2 < n then z2 else 0) (if 3 < n then z3 else 0) = _
          split <;> split
          · rfl
          · rw [c3 (by omega)]
          · omega
          · rw [c2 (by omega), c3 (by omega)]
        · rw [← dtp 1 _ (by decide), ← p1]
          show pdt F 1 z0 z1 (if 2 < n then z2 else 0) (if 3 < n then z3 else 0) = _
          split <;> split
          · rfl
          · rw [c3 (by omega)]
          · omega
          · rw [c2 (by omega), c3 (by omega)]
      have hfs := hw.fs hn hp
      refine ⟨_, hfs, ?_, ?_⟩
      · have a0 := hfs.1 0 (by decide); have a1 := hfs.1 1 (by decide); have a2 := hfs.1 2 (by decide)
        unfold pre3; omega
      · rw [← pk_cd4 hn, pk]
        show Pn n z0 z1 z2 z3 = Pn n z0 z1 (if 2 < n then z2 else 0) (if 3 < n then z3 else 0)
        split <;> split
        · rfl
        · rw [c3 (by omega)]
        · omega
        · rw [c2 (by omega), c3 (by omega)]
    · rintro ⟨y, hy, hq, rfl⟩
      obtain ⟨hw, hx⟩ := hy.fsn hn
      have w := hw.1
      have d0 := dtp 0 (usf n y) (by decide)
      have d1 := dtp 1 (usf n y) (by decide)
      rw [hw.2.1] at d0
      rw [hw.2.2] at d1
      have ec : cd4 y = Pn n (usf n y 0) (usf n y 1) (if 2 < n then usf n y 2 else 0) (if 3 < n then usf n y 3 else 0) := by
        rw [← pk, pk_cd4 hn]
        unfold cd4 pre3
        rw [hx 0 (by decide), hx 1 (by decide), hx 2 (by decide), hx 3 (by decide)]
      have w0 := w 0 (by omega); have w1 := w 1 (by omega)
      have w2 : 0 ≤ (if 2 < n then usf n y 2 else 0) ∧ (if 2 < n then usf n y 2 else 0) ≤ 127 := by
        split
        · exact w 2 (by omega)
        · omega
      have w3 : 0 ≤ (if 3 < n then usf n y 3 else 0) ∧ (if 3 < n then usf n y 3 else 0) ≤ 127 := by
        split
        · exact w 3 (by omega)
        · omega
      refine ⟨_, _, _, _, ⟨w0, w1, w2, w3, fun c => if_neg (by omega), fun c => if_neg (by omega), d0, d1⟩, ?_, ec⟩
      have := (Pn_b (n := n) w0 w1 w2 w3).2
      omega
  exact (FibP.eq hF).1
theorem MA.lcf {S : Sx} {F : FE} {m s t : Int} (hM : MA S F) (hS : SF S) (hp : Pos (gM S.1) (gC S.1)) (hs : s = dt (gM S.1) (gY S.1) 0 (gC S.1).toNat) (ht : t = dt (gM S.1) (gY S.1) 1 (gC S.1).toNat) (h : LC F (gC S.1) s t 268435456 m) : m = fbm (gM S.1) (gC S.1) (gY S.1) := by
  subst hs
  subst ht
  exact LC.fin hS hM hp h
