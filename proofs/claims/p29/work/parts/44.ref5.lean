theorem lexd {w : Int} (hw : 2 ≤ w) : ∀ (k : Nat) (c c' : Int), 0 ≤ c → c < c' → c' < w ^ k → ∃ i : Nat, i < k ∧ (∀ j : Nat, i < j → j < k → rst w c j % w = rst w c' j % w) ∧ rst w c i % w < rst w c' i % w
  | 0, c, c', h0, h1, h2 => by simp at h2; omega
  | k + 1, c, c', h0, h1, h2 => by
    have hp : w ^ (k + 1) = w * w ^ k := by rw [Int.pow_succ, Int.mul_comm]
    have q1 := Int.mul_ediv_add_emod c w
    have q2 := Int.mul_ediv_add_emod c' w
    have m1 := Int.emod_nonneg c (show w ≠ 0 by omega)
    have m2 := Int.emod_lt_of_pos c (show 0 < w by omega)
    have m3 := Int.emod_nonneg c' (show w ≠ 0 by omega)
    have m4 := Int.emod_lt_of_pos c' (show 0 < w by omega)
    have hle : c / w ≤ c' / w := Int.ediv_le_ediv (by omega) (by omega)
    by_cases e : c / w < c' / w
    · obtain ⟨i, i1, i2, i3⟩ := lexd hw k (c / w) (c' / w) (Int.ediv_nonneg h0 (by omega)) e (Int.ediv_lt_of_lt_mul (by omega) (by rw [Int.mul_comm]; omega))
      refine ⟨i + 1, by omega, fun j hj hk => ?_, by rw [rst_succ, rst_succ]; exact i3⟩
      cases j with
      | zero => omega
      | succ j => rw [rst_succ, rst_succ]; exact i2 j (by omega) (by omega)
    · have e' : c / w = c' / w := by omega
      rw [e'] at q1
      refine ⟨0, by omega, fun j hj hk => ?_, ?_⟩
      · cases j with
        | zero => omega
        | succ j => rw [rst_succ, rst_succ, e']
      · show c % w < c' % w
        omega
/-- lexicographically greater -/
def Lxg (u v : Int → Int) : Prop := ∃ p, (0 ≤ p ∧ p < 4) ∧ (∀ q, 0 ≤ q ∧ q < p → u q = v q) ∧ v p < u p
theorem DgR.lx {n b : Int} {z y : Int → Int} {c c' : Nat} (hb : 1 ≤ b) (hn : 2 ≤ n ∧ n ≤ 4) (hc : c < c') (hc' : (c' : Int) < (2 * b + 1) ^ (n - 1).toNat) (h : DgR n b z c) (g : DgR n b y c') : Lxg z y := by
  obtain ⟨i, i1, i2, i3⟩ := lexd (w := 2 * b + 1) (by omega) _ (c : Int) (c' : Int) (by omega) (by omega) hc'
  refine ⟨n - 2 - i, by omega, fun q hq => ?_, by rw [h i (by omega), g i (by omega)]; omega⟩
  have := i2 (n - 2 - q).toNat (by omega) (by omega)
  have a1 := h (n - 2 - q).toNat (by omega)
  have a2 := g (n - 2 - q).toNat (by omega)
  rw [show n - 2 - ((n - 2 - q).toNat : Int) = q by omega] at a1 a2
  omega
def elast (n : Int) : Int → Int := fun j => if j = n - 1 then 1 else 0
/-- the whole list -/
def KFin (M : Int → Int) (n b m : Int) (K : Int → Int → Int) : Prop := (0 ≤ m ∧ m ≤ 701) ∧ (∀ i, 0 ≤ i ∧ i < m → Cnd M n b (K i) ∧ (lcz M n → K i (n - 1) = 0 ∨ ∀ j, 0 ≤ j ∧ j < 4 → K i j = elast n j)) ∧ (∀ i j, 0 ≤ i ∧ i < j ∧ j < m → Lxg (K i) (K j)) ∧ (∀ z, Cnd M n b z → (lcz M n → z (n - 1) = 0) → ∃ i, 0 ≤ i ∧ i < m ∧ ∀ j, 0 ≤ j ∧ j < 4 → K i j = z j) ∧ (lcz M n → ∃ i, 0 ≤ i ∧ i < m ∧ ∀ j, 0 ≤ j ∧ j < 4 → K i j = elast n j)
theorem elast_Cnd {M : Int → Int} {n b : Int} (hn : 2 ≤ n ∧ n ≤ 4) (hb : 1 ≤ b) (h : lcz M n) : Cnd M n b (elast n) := by
  obtain ⟨l, hl⟩ : ∃ l : Nat, (l : Int) + 1 = n := ⟨(n - 1).toNat, by omega⟩
  have el : n - 1 = (l : Int) := by omega
  have d0 : ∀ r, dt M (fun _ => 0) r l = 0 := fun r => by
    have key : ∀ k : Nat, dt M (fun _ => 0) r k = 0 := by
      intro k
      induction k with
      | zero => rfl
      | succ k ih => simp only [dt]; rw [ih, Int.mul_zero]; rfl
    exact key l
  have e : elast n = ups (fun _ => 0) l 1 := by funext j; unfold elast ups; rw [el]
  obtain ⟨h0, h1⟩ := h
  rw [el] at h0 h1
  refine ⟨by rw [e, ker_last hl, d0, d0, h0, h1]; exact ⟨rfl, rfl⟩, fun j _ => ?_, ⟨n - 1, by omega, by omega, fun i hi => ?_, ?_⟩, fun j hj => ?_⟩
  · unfold elast; split <;> omega
  · unfold elast; rw [if_neg (by omega)]
  · unfold elast; rw [if_pos rfl]; decide
  · unfold elast; rw [if_neg (by omega)]
theorem DgR.all {n b : Int} {z : Int → Int} (hb : 1 ≤ b) (hn : 2 ≤ n ∧ n ≤ 4) (hz : ∀ j, 0 ≤ j ∧ j < n → -b ≤ z j ∧ z j ≤ b) : ∃ c : Nat, (c : Int) < (2 * b + 1) ^ (n - 1).toNat ∧ DgR n b z c := by
  obtain ⟨c, c0, c1, c2⟩ := dg_ex (w := 2 * b + 1) (by omega) (n - 1).toNat (fun i => b - z (n - 2 - i)) (fun i hi => by have := hz (n - 2 - i) (by omega); omega)
  refine ⟨c.toNat, by omega, fun i hi => ?_⟩
  rw [show ((c.toNat : Nat) : Int) = c by omega, c2 i (by omega)]
  omega
theorem KLI.fin {M : Int → Int} {n r b : Int} {c : Nat} {m : Int} {K : Int → Int → Int} (hb : 1 ≤ b) (hn : 2 ≤ n ∧ n ≤ 4) (hP : PVq M n r b) (h : KLI M n b c m K) (hc : (c : Int) = (2 * b + 1) ^ (n - 1).toNat) : (¬ lcz M n → KFin M n b m K) ∧ ∀ K', lcz M n → (∀ i, 0 ≤ i ∧ i < m → ∀ j, 0 ≤ j ∧ j < 4 → K' i j = K i j) → (∀ j, 0 ≤ j ∧ j < 4 → K' m j = elast n j) → KFin M n b (m + 1) K' := by
  have cap := h.cap hn hP (by omega)
  obtain ⟨h0, h1, h2, h3⟩ := id h
  have lx : ∀ i j, 0 ≤ i ∧ i < j ∧ j < m → Lxg (K i) (K j) := fun i j hij => by
    obtain ⟨ci, cj, a1, a2, a3, a4⟩ := h2 i j hij
    exact DgR.lx hb hn a1 (by omega) a3 a4
  have comp : ∀ z, Cnd M n b z → (lcz M n → z (n - 1) = 0) → ∃ i, 0 ≤ i ∧ i < m ∧ ∀ j, 0 ≤ j ∧ j < 4 → K i j = z j := fun z hz hl => by
    obtain ⟨c', c1, c2⟩ := DgR.all hb hn hz.2.1
    exact h3 z c' (by omega) c2 hz hl
  refine ⟨fun hl => ⟨⟨h0, by omega⟩, fun i hi => ⟨(h1 i hi).1, fun g => absurd g hl⟩, lx, comp, fun g => absurd g hl⟩, fun K' hl e e2 => ?_⟩
  refine ⟨⟨by omega, by omega⟩, fun i hi => ?_, fun i j hij => ?_, fun z hz hlz => ?_, fun _ => ⟨m, h0, by omega, e2⟩⟩
  · by_cases ci : i = m
    · subst ci
      exact ⟨(elast_Cnd hn hb hl).ext ⟨by omega, hn.2⟩ (fun j hj => (e2 j hj).symm), fun _ => Or.inr e2⟩
    · have hi' : 0 ≤ i ∧ i < m := by omega
      exact ⟨(h1 i hi').1.ext ⟨by omega, hn.2⟩ (fun j hj => (e i hi' j hj).symm), fun g => Or.inl (by rw [e i hi' _ (by omega)]; exact (h1 i hi').2.1 g)⟩
  · by_cases cj : j = m
    · subst cj
      have hi' : 0 ≤ i ∧ i < j := by omega
      obtain ⟨k, k0, k1, k2, k3⟩ := (h1 i hi').1.2.2.1
      have kz := (h1 i hi').2.1 hl
      have kn : k ≠ n - 1 := fun g => by rw [g, kz] at k3; omega
      refine ⟨k, by omega, fun q hq => ?_, ?_⟩
      · rw [e i hi' q (by omega), e2 q (by omega), k2 q hq]
        unfold elast; rw [if_neg (by omega)]
      · rw [e i hi' k (by omega), e2 k (by omega)]
        unfold elast; rw [if_neg (by omega)]; exact k3
    · obtain ⟨p, p0, p1, p2⟩ := lx i j (by omega)
      exact ⟨p, p0, fun q hq => by rw [e i (by omega) q (by omega), e j (by omega) q (by omega)]; exact p1 q hq, by rw [e i (by omega) p (by omega), e j (by omega) p (by omega)]; exact p2⟩
  · obtain ⟨i, i0, i1, i2⟩ := comp z hz hlz
    exact ⟨i, i0, by omega, fun j hj => by rw [e i ⟨i0, i1⟩ j hj]; exact i2 j hj⟩
/-- row i of the kernel's list -/
def kr (F : FE) (i : Int) : Int → Int := fun j => F 5 (4 * i + j)
/-- what the kernel's making may change -/
def Lfr (I I' : IE) (F F' : FE) : Prop := (∀ a k, (a ≠ 0 ∨ k ≠ 8) → I' a k = I a k) ∧ ∀ a, a ≠ 5 → a ≠ 6 → F' a = F a
