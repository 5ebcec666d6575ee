/-- the digits of a vector's first n - 1 entries are a code's -/
def DgR (n b : Int) (z : Int → Int) (c : Int) : Prop := ∀ i : Nat, (i : Int) + 1 < n → z (n - 2 - i) = b - rst (2 * b + 1) c i % (2 * b + 1)
def lcz (M : Int → Int) (n : Int) : Prop := M (n - 1) = 0 ∧ M (4 + (n - 1)) = 0
/-- the vectors of the codes ahead of c, as they are listed -/
def KLI (M : Int → Int) (n b : Int) (c : Nat) (m : Int) (K : Int → Int → Int) : Prop := 0 ≤ m ∧
  (∀ i, 0 ≤ i ∧ i < m → Cnd M n b (K i) ∧ (lcz M n → K i (n - 1) = 0) ∧ ∃ c' : Nat, c' < c ∧ DgR n b (K i) c') ∧
  (∀ i j, 0 ≤ i ∧ i < j ∧ j < m → ∃ ci cj : Nat, ci < cj ∧ cj < c ∧ DgR n b (K i) ci ∧ DgR n b (K j) cj) ∧
  ∀ z (c' : Nat), c' < c → DgR n b z c' → Cnd M n b z → (lcz M n → z (n - 1) = 0) → ∃ i, 0 ≤ i ∧ i < m ∧ ∀ j, 0 ≤ j ∧ j < 4 → K i j = z j
theorem DgR.ext {n b : Int} {z y : Int → Int} {c : Int} (hn : 2 ≤ n) (h : DgR n b z c) (e : ∀ j, 0 ≤ j ∧ j < n - 1 → z j = y j) : DgR n b y c := fun i hi => by
  rw [← e _ (by omega)]
  exact h i hi
theorem DgR.ag {n b : Int} {z y : Int → Int} {c : Int} (h : DgR n b z c) (g : DgR n b y c) : ∀ j, 0 ≤ j ∧ j < n - 1 → z j = y j := fun j hj => by
  have a1 := h (n - 2 - j).toNat (by omega)
  have a2 := g (n - 2 - j).toNat (by omega)
  rw [show n - 2 - ((n - 2 - j).toNat : Int) = j by omega] at a1 a2
  rw [a1, a2]
theorem DgR.uniq {n b : Int} {z : Int → Int} {c c' : Int} (hb : 1 ≤ b) (hn : 2 ≤ n) (hc : 0 ≤ c ∧ c < (2 * b + 1) ^ (n - 1).toNat) (hc' : 0 ≤ c' ∧ c' < (2 * b + 1) ^ (n - 1).toNat) (h : DgR n b z c) (g : DgR n b z c') : c = c' := by
  refine dg_inj (w := 2 * b + 1) (by omega) _ c c' hc hc' (fun i hi => ?_)
  have a1 := h i (by omega)
  have a2 := g i (by omega)
  omega
/-- two completions of the same digits -/
theorem last_uniq {M z y : Int → Int} {n : Int} (hn : 2 ≤ n) (hz : KerF M n z) (hy : KerF M n y) (e : ∀ j, 0 ≤ j ∧ j < n - 1 → z j = y j) (h0 : lcz M n → z (n - 1) = 0 ∧ y (n - 1) = 0) : z (n - 1) = y (n - 1) := by
  obtain ⟨l, hl⟩ : ∃ l : Nat, (l : Int) + 1 = n := ⟨(n - 1).toNat, by omega⟩
  have el : n - 1 = (l : Int) := by omega
  rw [el] at e h0 ⊢
  have hz' : KerF M n (ups z l (z l)) := hz.ext (fun j hj => by unfold ups; split <;> rename_i c; rw [c]; rfl)
  have hy' : KerF M n (ups z l (y l)) := hy.ext (fun j hj => by
    unfold ups
    split
    · rename_i c; rw [c]
    · exact (e j (by omega)).symm)
  have k1 := (ker_last hl).mp hz'
  have k2 := (ker_last hl).mp hy'
  by_cases c0 : M l = 0
  · by_cases c1 : M (4 + l) = 0
    · have := h0 ⟨by rw [el]; exact c0, by rw [el]; exact c1⟩
      omega
    · have : M (4 + l) * (z l - y l) = 0 := by rw [Int.mul_sub]; omega
      have := (Int.mul_eq_zero.mp this).resolve_left c1
      omega
  · have : M l * (z l - y l) = 0 := by rw [Int.mul_sub]; omega
    have := (Int.mul_eq_zero.mp this).resolve_left c0
    omega
theorem KLI.cut {M : Int → Int} {n b : Int} {c : Nat} {m : Int} {K K' : Int → Int → Int} (hn : 2 ≤ n ∧ n ≤ 4) (h : KLI M n b c m K) (e : ∀ i, 0 ≤ i ∧ i < m → ∀ j, 0 ≤ j ∧ j < 4 → K i j = K' i j) : KLI M n b c m K' := by
  obtain ⟨h0, h1, h2, h3⟩ := h
  have dg : ∀ i, 0 ≤ i ∧ i < m → ∀ c : Int, DgR n b (K i) c → DgR n b (K' i) c := fun i hi c g => g.ext hn.1 (fun j hj => e i hi j (by omega))
  refine ⟨h0, fun i hi => ?_, fun i j hij => ?_, fun z c' hc hd hC hl => ?_⟩
  · obtain ⟨a1, a2, c', a3, a4⟩ := h1 i hi
    exact ⟨a1.ext ⟨by omega, hn.2⟩ (fun j hj => e i hi j hj), fun g => by rw [← e i hi _ (by omega)]; exact a2 g, c', a3, dg i hi _ a4⟩
  · obtain ⟨ci, cj, a1, a2, a3, a4⟩ := h2 i j hij
    exact ⟨ci, cj, a1, a2, dg i (by omega) _ a3, dg j (by omega) _ a4⟩
  · obtain ⟨i, i0, i1, i2⟩ := h3 z c' hc hd hC hl
    exact ⟨i, i0, i1, fun j hj => by rw [← e i ⟨i0, i1⟩ j hj]; exact i2 j hj⟩
theorem KLI.skip {M : Int → Int} {n b : Int} {c : Nat} {m : Int} {K : Int → Int → Int} (h : KLI M n b c m K) (hno : ∀ z, DgR n b z c → Cnd M n b z → (lcz M n → z (n - 1) = 0) → False) : KLI M n b (c + 1) m K := by
  obtain ⟨h0, h1, h2, h3⟩ := h
  refine ⟨h0, fun i hi => ?_, fun i j hij => ?_, fun z c' hc hd hC hl => ?_⟩
  · obtain ⟨a1, a2, c', a3, a4⟩ := h1 i hi
    exact ⟨a1, a2, c', by omega, a4⟩
  · obtain ⟨ci, cj, a1, a2, a3, a4⟩ := h2 i j hij
    exact ⟨ci, cj, a1, by omega, a3, a4⟩
  · by_cases e : c' = c
    · subst e
      exact (hno z hd hC hl).elim
    · exact h3 z c' (by omega) hd hC hl
theorem KLI.put {M : Int → Int} {n b : Int} {c : Nat} {m : Int} {K K' : Int → Int → Int} {y : Int → Int} (hn : 2 ≤ n ∧ n ≤ 4) (h : KLI M n b c m K) (hy : DgR n b y c) (hC : Cnd M n b y) (hl : lcz M n → y (n - 1) = 0) (e : ∀ i, 0 ≤ i ∧ i < m → ∀ j, 0 ≤ j ∧ j < 4 → K' i j = K i j) (e2 : ∀ j, 0 ≤ j ∧ j < 4 → K' m j = y j) : KLI M n b (c + 1) (m + 1) K' := by
  have h' := h.cut (K' := K') hn (fun i hi j hj => (e i hi j hj).symm)
  obtain ⟨h0, h1, h2, h3⟩ := h'
  have hyC : Cnd M n b (K' m) := hC.ext ⟨by omega, hn.2⟩ (fun j hj => (e2 j hj).symm)
  have hyD : DgR n b (K' m) c := hy.ext hn.1 (fun j hj => (e2 j (by omega)).symm)
  refine ⟨by omega, fun i hi => ?_, fun i j hij => ?_, fun z c' hc hd hCz hlz => ?_⟩
  · by_cases c1 : i = m
    · subst c1
      exact ⟨hyC, fun g => by rw [e2 _ (by omega)]; exact hl g, c, by omega, hyD⟩
    · obtain ⟨a1, a2, c', a3, a4⟩ := h1 i (by omega)
      exact ⟨a1, a2, c', by omega, a4⟩
  · by_cases c1 : j = m
    · subst c1
      obtain ⟨a1, a2, c', a3, a4⟩ := h1 i (by omega)
      exact ⟨c', c, a3, by omega, a4, hyD⟩
    · obtain ⟨ci, cj, a1, a2, a3, a4⟩ := h2 i j (by omega)
      exact ⟨ci, cj, a1, by omega, a3, a4⟩
  · by_cases c1 : c' = c
    · subst c1
      refine ⟨m, h0, by omega, fun j hj => ?_⟩
      rw [e2 j hj]
      have ag := hy.ag hd
      by_cases cj : j < n - 1
      · exact ag j (by omega)
      · by_cases cj2 : j = n - 1
        · rw [cj2]
          exact last_uniq hn.1 hC.1 hCz.1 ag (fun g => ⟨hl g, hlz g⟩)
        · rw [hC.2.2.2 j (by omega), hCz.2.2.2 j (by omega)]
    · obtain ⟨i, i0, i1, i2⟩ := h3 z c' (by omega) hd hCz hlz
      exact ⟨i, i0, by omega, i2⟩
/-- the numbers of the kernel's rank and bound, in the reference -/
def PVq (M : Int → Int) (n r b : Int) : Prop := (r = 0 ∧ b = 1 ∧ ∀ c, 0 ≤ c ∧ c < n → M c = 0 ∧ M (4 + c) = 0) ∨ (r = 1 ∧ b = 3 ∧ (∃ p c, 0 ≤ p ∧ p ≤ 1 ∧ 0 ≤ c ∧ c < n ∧ M (p * 4 + c) ≠ 0) ∧ ∀ x y, 0 ≤ x ∧ x < y ∧ y < n → mnr M x y = 0) ∨ (r = 2 ∧ b = 18 ∧ ∃ x y, 0 ≤ x ∧ x < y ∧ y < n ∧ mnr M x y ≠ 0)
theorem KLI.ne {M : Int → Int} {n b : Int} {c : Nat} {m : Int} {K : Int → Int → Int} (hb : 1 ≤ b) (hn : 2 ≤ n ∧ n ≤ 4) (h : KLI M n b c m K) (hc : (c : Int) ≤ (2 * b + 1) ^ (n - 1).toNat) : ∀ i j, 0 ≤ i ∧ i < j ∧ j < m → ¬ ∀ k, 0 ≤ k ∧ k < n → K i k = K j k := fun i j hij e => by
  obtain ⟨ci, cj, a1, a2, a3, a4⟩ := h.2.2.1 i j hij
  have := DgR.uniq hb hn.1 ⟨by omega, by omega⟩ ⟨by omega, by omega⟩ (a3.ext hn.1 (fun k hk => e k (by omega))) a4
  omega
theorem KLI.le_c {M : Int → Int} {n b : Int} {c : Nat} {m : Int} {K : Int → Int → Int} (hb : 1 ≤ b) (hn : 2 ≤ n ∧ n ≤ 4) (h : KLI M n b c m K) (hc : (c : Int) ≤ (2 * b + 1) ^ (n - 1).toNat) : m ≤ c := by
  have key : ∀ i : Nat, ∃ c' : Nat, (i : Int) < m → c' < c ∧ DgR n b (K i) c' := fun i => by
    by_cases hi : (i : Int) < m
    · obtain ⟨a1, a2, c', a3, a4⟩ := h.2.1 i ⟨by omega, hi⟩
      exact ⟨c', fun _ => ⟨a3, a4⟩⟩
    · exact ⟨0, fun g => absurd g hi⟩
  have := php c m.toNat (fun i => Classical.choose (key i)) (fun i hi => (Classical.choose_spec (key i) (by omega)).1) (fun i j hij hj e => by
    have g1 := Classical.choose_spec (key i) (by omega)
    have g2 := Classical.choose_spec (key j) (by omega)
    have e' : Classical.choose (key i) = Classical.choose (key j) := e
    obtain ⟨ci, cj, a1, a2, a3, a4⟩ := h.2.2.1 i j (by omega)
    have u1 := DgR.uniq hb hn.1 (c := ((Classical.choose (key i) : Nat) : Int)) (c' := (ci : Int)) ⟨by omega, by omega⟩ ⟨by omega, by omega⟩ g1.2 a3
    have u2 := DgR.uniq hb hn.1 (c := ((Classical.choose (key j) : Nat) : Int)) (c' := (cj : Int)) ⟨by omega, by omega⟩ ⟨by omega, by omega⟩ g2.2 a4
    omega)
  omega
theorem KLI.cap {M : Int → Int} {n r b : Int} {c : Nat} {m : Int} {K : Int → Int → Int} (hn : 2 ≤ n ∧ n ≤ 4) (hP : PVq M n r b) (h : KLI M n b c m K) (hc : (c : Int) ≤ (2 * b + 1) ^ (n - 1).toNat) : m ≤ 700 := by
  have hn3 : (n - 1).toNat = 1 ∨ (n - 1).toNat = 2 ∨ (n - 1).toNat = 3 := by omega
  rcases hP with ⟨-, rfl, -⟩ | ⟨-, rfl, -⟩ | ⟨-, rfl, x, y, x0, xy, yn, hne⟩
  · have := h.le_c (by decide) hn hc
    rcases hn3 with e | e | e <;> rw [e] at hc <;> omega
  · have := h.le_c (by decide) hn hc
    rcases hn3 with e | e | e <;> rw [e] at hc <;> omega
  · have hP2 : PVs M n (fun a k => if k = 1 then 2 else if k = 4 then 9 else if k = 5 then x else if k = 6 then y else if k = 8 then mnr M x y else 0) := Or.inr (Or.inr ⟨rfl, rfl, x0, xy, yn, rfl, hne⟩)
    obtain ⟨p, q, hp, hq, hpq⟩ : ∃ p q : Int, (0 ≤ p ∧ p < 4) ∧ (0 ≤ q ∧ q < 4) ∧ ∀ j, 0 ≤ j ∧ j < 4 → j ≠ x → j ≠ y → j = p ∨ j = q := by
      have hx : x = 0 ∨ x = 1 ∨ x = 2 := by omega
      have hy : y = 1 ∨ y = 2 ∨ y = 3 := by omega
      rcases hx with rfl | rfl | rfl <;> rcases hy with rfl | rfl | rfl <;> first | omega | skip
      · exact ⟨2, 3, by decide, by decide, fun j _ _ _ => by omega⟩
      · exact ⟨1, 3, by decide, by decide, fun j _ _ _ => by omega⟩
      · exact ⟨1, 2, by decide, by decide, fun j _ _ _ => by omega⟩
      · exact ⟨0, 3, by decide, by decide, fun j _ _ _ => by omega⟩
      · exact ⟨0, 2, by decide, by decide, fun j _ _ _ => by omega⟩
      · exact ⟨0, 1, by decide, by decide, fun j _ _ _ => by omega⟩
    have kb : ∀ i, 0 ≤ i ∧ i < m → ∀ j, 0 ≤ j ∧ j < 4 → -18 ≤ K i j ∧ K i j ≤ 18 := fun i hi j hj => by
      have g := (h.2.1 i hi).1
      by_cases c : j < n
      · exact g.2.1 j (by omega)
      · rw [g.2.2.2 j (by omega)]; decide
    -- same code at p, q: the same vector
    have same : ∀ u v : Int → Int, KerF M n u → KerF M n v → (∀ j, n ≤ j ∧ j < 4 → u j = 0) → (∀ j, n ≤ j ∧ j < 4 → v j = 0) → u p = v p → u q = v q → ∀ j, 0 ≤ j ∧ j < n → u j = v j := fun u v hu hv hu0 hv0 e1 e2 => by
      refine ker_uniq hP2 (by omega) hu hv (fun j hj h5 h6 => ?_)
      rcases hpq j (by omega) h5 h6 with rfl | rfl
      · exact e1
      · exact e2
    have cd : ∀ a1 a2 b1 b2 : Int, (-18 ≤ a1 ∧ a1 ≤ 18) → (-18 ≤ a2 ∧ a2 ≤ 18) → (-18 ≤ b1 ∧ b1 ≤ 18) → (-18 ≤ b2 ∧ b2 ≤ 18) → ((a1 + 18) * 37 + (a2 + 18)).toNat = ((b1 + 18) * 37 + (b2 + 18)).toNat → a1 = b1 ∧ a2 = b2 := fun a1 a2 b1 b2 h1 h2 h3 h4 e => by omega
    have m0 := h.1
    have := php 1369 (2 * m.toNat) (fun i => if i < m.toNat then ((K i p + 18) * 37 + (K i q + 18)).toNat else ((-K (i - m.toNat : Nat) p + 18) * 37 + (-K (i - m.toNat : Nat) q + 18)).toNat) (fun i hi => by
      show (if i < m.toNat then ((K i p + 18) * 37 + (K i q + 18)).toNat else ((-K (i - m.toNat : Nat) p + 18) * 37 + (-K (i - m.toNat : Nat) q + 18)).toNat) < 1369
      split
      · have a := kb i (by omega) p hp
        have b := kb i (by omega) q hq
        omega
      · have a := kb (i - m.toNat : Nat) (by omega) p hp
        have b := kb (i - m.toNat : Nat) (by omega) q hq
        omega) (fun i j hij hj e => by
      have e' : (if i < m.toNat then ((K i p + 18) * 37 + (K i q + 18)).toNat else ((-K (i - m.toNat : Nat) p + 18) * 37 + (-K (i - m.toNat : Nat) q + 18)).toNat) = (if j < m.toNat then ((K j p + 18) * 37 + (K j q + 18)).toNat else ((-K (j - m.toNat : Nat) p + 18) * 37 + (-K (j - m.toNat : Nat) q + 18)).toNat) := e
      by_cases ci : i < m.toNat
      · have bi := kb i (by omega)
        have gi := (h.2.1 i (by omega)).1
        rw [if_pos ci] at e'
        by_cases cj : j < m.toNat
        · have bj := kb j (by omega)
          have gj := (h.2.1 j (by omega)).1
          rw [if_pos cj] at e'
          obtain ⟨u1, u2⟩ := cd _ _ _ _ (bi p hp) (bi q hq) (bj p hp) (bj q hq) e'
          exact h.ne (by decide) hn hc i j (by omega) (same _ _ gi.1 gj.1 gi.2.2.2 gj.2.2.2 u1 u2)
        · have bj := kb (j - m.toNat : Nat) (by omega)
          have gj := (h.2.1 (j - m.toNat : Nat) (by omega)).1
          rw [if_neg cj] at e'
          obtain ⟨u1, u2⟩ := cd _ _ _ _ (bi p hp) (bi q hq) (by have := bj p hp; omega) (by have := bj q hq; omega) e'
          exact lead_neg gj.2.2.1 (lead_ext gi.2.2.1 (same _ (fun k => -K (j - m.toNat : Nat) k) gi.1 gj.1.neg gi.2.2.2 (fun k hk => by show -K (j - m.toNat : Nat) k = 0; rw [gj.2.2.2 k hk]; rfl) u1 u2))
      · have bi := kb (i - m.toNat : Nat) (by omega)
        have bj := kb (j - m.toNat : Nat) (by omega)
        have gi := (h.2.1 (i - m.toNat : Nat) (by omega)).1
        have gj := (h.2.1 (j - m.toNat : Nat) (by omega)).1
        rw [if_neg ci, if_neg (by omega)] at e'
        obtain ⟨u1, u2⟩ := cd _ _ _ _ (by have := bi p hp; omega) (by have := bi q hq; omega) (by have := bj p hp; omega) (by have := bj q hq; omega) e'
        exact h.ne (by decide) hn hc (i - m.toNat : Nat) (j - m.toNat : Nat) (by omega) (same _ _ gi.1 gj.1 gi.2.2.2 gj.2.2.2 (by omega) (by omega)))
    omega
