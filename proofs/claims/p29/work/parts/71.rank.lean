theorem exB_t {a b c d x y v : Nat} (h : exB a b c d x y v = true) : ∃ i j k q, i ≤ x ∧ j ≤ y ∧ k ≤ v ∧ b * i + c * j + d * k = a * q ∧ 1 ≤ q ∧ q ≤ 3 := by
  unfold exB at h
  obtain ⟨i, hi, h⟩ := allB_f h
  obtain ⟨j, hj, h⟩ := allB_f h
  obtain ⟨k, hk, h⟩ := allB_f h
  rw [frcB_eq] at h
  obtain ⟨h1, h⟩ := and_t h
  obtain ⟨h2, h3⟩ := and_t h
  have e := Nat.eq_of_beq_eq_true h1
  refine ⟨i, j, k, (b * i + c * j + d * k) / a, by omega, by omega, by omega, ?_, Nat.le_of_ble_eq_true h2, Nat.le_of_ble_eq_true h3⟩
  have := Nat.div_add_mod (b * i + c * j + d * k) a
  omega
theorem im_t {a b c d x y v : Nat} (ha : 1 ≤ a ∧ a ≤ 3) (hb : b ≤ 3) (hc : c ≤ 3) (hd : d ≤ 3) (hx : x ≤ 3) (hy : y ≤ 3) (hv : v ≤ 3) (h : 4 * a ≤ b * x + c * y + d * v ∨ (1 ≤ b ∧ x = 3) ∨ (1 ≤ c ∧ y = 3) ∨ (1 ≤ d ∧ v = 3)) : exB a b c d x y v = true := by
  have k := allB_t (allB_t (allB_t (allB_t (allB_t (allB_t (allB_t im_all (a - 1) (by omega)) b (by omega)) c (by omega)) d (by omega)) x (by omega)) y (by omega)) v (by omega)
  rw [show a - 1 + 1 = a by omega] at k
  rcases or_t k with k | k
  · exfalso
    have e : (Nat.ble (4 * a) (b * x + c * y + d * v) || ((Nat.ble 1 b && Nat.beq x 3) || ((Nat.ble 1 c && Nat.beq y 3) || (Nat.ble 1 d && Nat.beq v 3)))) = true := by
      rcases h with h | ⟨h, rfl⟩ | ⟨h, rfl⟩ | ⟨h, rfl⟩
      · rw [Nat.ble_eq_true_of_le h]; rfl
      · rw [Nat.ble_eq_true_of_le h]; simp
      · rw [Nat.ble_eq_true_of_le h]; simp
      · rw [Nat.ble_eq_true_of_le h]; simp
    rw [e] at k
    exact absurd k (by decide)
  · exact k
theorem mul_neg_le {b m : Nat} {z : Int} (h : -(m : Int) ≤ z) : -((b : Int) * (m : Int)) ≤ (b : Int) * z := by
  have := Int.mul_le_mul_of_nonneg_left h (Int.natCast_nonneg b)
  rw [Int.mul_neg] at this
  exact this
def Rw (a b c d : Nat) : Prop := a % 4 = 0 ∧ b % 4 = 0 ∧ c % 4 = 0 ∧ d % 4 = 0
theorem Rw.k {a b c d : Nat} {z : Z4} (h : Rw a b c d) (hz : dt4 (a / 4) (b / 4) (c / 4) (d / 4) z = 0) : K4 a b c d z := ⟨hz, by unfold dt4; rw [h.1, h.2.1, h.2.2.1, h.2.2.2]; simp⟩
theorem row_le {a b c d : Nat} (hr : Rw a b c d) (ha : a ≤ 15) (hb : b ≤ 15) (hc : c ≤ 15) (hd : d ≤ 15) {z : Z4} (hz : Gm4 a b c d z) : z.1 ≤ 3 := by
  by_cases h3 : z.1 ≤ 3
  · exact h3
  exfalso
  have e := hz.1.1
  by_cases ha0 : a / 4 = 0
  · have := hz.2.2 (1, 0, 0, 0) (hr.k (by unfold dt4; rw [ha0]; simp)) (by simp) ⟨.inl ⟨by decide, by show (1 : Int) ≤ z.1; omega⟩, by unfold c1; dsimp only; omega, by unfold c1; dsimp only; omega, by unfold c1; dsimp only; omega⟩
    have := congrArg (fun z : Z4 => z.1) this
    dsimp only at this
    omega
  · have m1 : -((-z.2.1).toNat : Int) ≤ z.2.1 := by omega
    have m2 : -((-z.2.2.1).toNat : Int) ≤ z.2.2.1 := by omega
    have m3 : -((-z.2.2.2).toNat : Int) ≤ z.2.2.2 := by omega
    have n1 := mul_neg_le (b := b / 4) m1
    have n2 := mul_neg_le (b := c / 4) m2
    have n3 := mul_neg_le (b := d / 4) m3
    have n0 := Int.mul_le_mul_of_nonneg_left (show (4 : Int) ≤ z.1 by omega) (Int.natCast_nonneg (a / 4))
    unfold dt4 at e
    generalize ex : (-z.2.1).toNat = x at m1 n1
    generalize ey : (-z.2.2.1).toNat = y at m2 n2
    generalize ev : (-z.2.2.2).toNat = v at m3 n3
    have tot : 4 * (a / 4) ≤ b / 4 * x + c / 4 * y + d / 4 * v := by
      apply Int.ofNat_le.1
      simp only [Int.natCast_add, Int.natCast_mul]
      omega
    have cap : ∀ (b x : Nat), (1 ≤ b ∧ min x 3 = 3) ∨ b * min x 3 = b * x := fun b x => by
      rcases Nat.eq_zero_or_pos b with h | h
      · right; rw [h]; simp
      · rcases Nat.le_total x 3 with g | g
        · right; rw [Nat.min_eq_left g]
        · left; exact ⟨h, by omega⟩
    have hx : exB (a / 4) (b / 4) (c / 4) (d / 4) (min x 3) (min y 3) (min v 3) = true := by
      refine im_t ⟨by omega, by omega⟩ (by omega) (by omega) (by omega) (by omega) (by omega) (by omega) ?_
      rcases cap (b / 4) x with h | h1
      · exact .inr (.inl h)
      rcases cap (c / 4) y with h | h2
      · exact .inr (.inr (.inl h))
      rcases cap (d / 4) v with h | h3
      · exact .inr (.inr (.inr h))
      · left; rw [h1, h2, h3]; exact tot
    obtain ⟨i, j, k, q, hi, hj, hk, hq, q1, q3⟩ := exB_t hx
    have hq' := congrArg (fun n : Nat => (n : Int)) hq
    simp only [Int.natCast_add, Int.natCast_mul] at hq'
    have := hz.2.2 ((q : Int), -(i : Int), -(j : Int), -(k : Int)) (hr.k (by unfold dt4; dsimp only; rw [Int.mul_neg, Int.mul_neg, Int.mul_neg]; omega)) (fun e => by have := congrArg (fun z : Z4 => z.1) e; dsimp only at this; omega) ⟨by unfold c1; dsimp only; omega, by unfold c1; dsimp only; omega, by unfold c1; dsimp only; omega, by unfold c1; dsimp only; omega⟩
    have := congrArg (fun z : Z4 => z.1) this
    dsimp only at this
    omega
theorem Gm4.s1 {a b c d : Nat} {z : Z4} (h : Gm4 a b c d z) : Gm4 b a c d (sw1 z) := by
  refine ⟨?_, fun e => h.2.1 (congrArg sw1 e), fun u hu hn hc => ?_⟩
  · have := h.1; unfold K4 dt4 sw1 at *; dsimp only; omega
  · have := h.2.2 (sw1 u) (by unfold K4 dt4 sw1 at *; dsimp only; omega) (fun e => hn (congrArg sw1 e)) ⟨hc.2.1, hc.1, hc.2.2.1, hc.2.2.2⟩
    rw [← this]; rfl
theorem Gm4.s2 {a b c d : Nat} {z : Z4} (h : Gm4 a b c d z) : Gm4 a c b d (sw2 z) := by
  refine ⟨?_, fun e => h.2.1 (congrArg sw2 e), fun u hu hn hc => ?_⟩
  · have := h.1; unfold K4 dt4 sw2 at *; dsimp only; omega
  · have := h.2.2 (sw2 u) (by unfold K4 dt4 sw2 at *; dsimp only; omega) (fun e => hn (congrArg sw2 e)) ⟨hc.1, hc.2.2.1, hc.2.1, hc.2.2.2⟩
    rw [← this]; rfl
theorem Gm4.s3 {a b c d : Nat} {z : Z4} (h : Gm4 a b c d z) : Gm4 a b d c (sw3 z) := by
  refine ⟨?_, fun e => h.2.1 (congrArg sw3 e), fun u hu hn hc => ?_⟩
  · have := h.1; unfold K4 dt4 sw3 at *; dsimp only; omega
  · have := h.2.2 (sw3 u) (by unfold K4 dt4 sw3 at *; dsimp only; omega) (fun e => hn (congrArg sw3 e)) ⟨hc.1, hc.2.1, hc.2.2.2, hc.2.2.1⟩
    rw [← this]; rfl
theorem row_bd {a b c d : Nat} (hr : Rw a b c d) (ha : a ≤ 15) (hb : b ≤ 15) (hc : c ≤ 15) (hd : d ≤ 15) {z : Z4} (hz : Gm4 a b c d z) : bd4 3 z := by
  have up : ∀ z, Gm4 a b c d z → z.1 ≤ 3 ∧ z.2.1 ≤ 3 ∧ z.2.2.1 ≤ 3 ∧ z.2.2.2 ≤ 3 := fun z hz =>
    ⟨row_le hr ha hb hc hd hz, row_le (z := sw1 z) ⟨hr.2.1, hr.1, hr.2.2.1, hr.2.2.2⟩ hb ha hc hd hz.s1, row_le (z := sw1 (sw2 z)) ⟨hr.2.2.1, hr.1, hr.2.1, hr.2.2.2⟩ hc ha hb hd hz.s2.s1, row_le (z := sw1 (sw2 (sw3 z))) ⟨hr.2.2.2, hr.1, hr.2.1, hr.2.2.1⟩ hd ha hb hc hz.s3.s2.s1⟩
  have u := up z hz
  have w := up (zneg z) hz.neg
  unfold zneg at w
  dsimp only at w
  exact ⟨by omega, by omega, by omega, by omega⟩
theorem q_row {a b c d : Nat} (ha : a ≤ 15) (hb : b ≤ 15) (hc : c ≤ 15) (hd : d ≤ 15) : Rw a b c d → ¬ (a = 0 ∧ b = 0 ∧ c = 0 ∧ d = 0) → Qg 3 a b c d := by
  refine wlog4 (Q := fun a b c d => Rw a b c d → ¬ (a = 0 ∧ b = 0 ∧ c = 0 ∧ d = 0) → Qg 3 a b c d) (fun a b c d h1 h2 h3 h4 hr hn => ?_) (fun a b c d h hr hn => (h ⟨hr.2.1, hr.1, hr.2.2⟩ (by omega)).s1) (fun a b c d h hr hn => (h ⟨hr.1, hr.2.2.1, hr.2.1, hr.2.2.2⟩ (by omega)).s2) (fun a b c d h hr hn => (h ⟨hr.1, hr.2.1, hr.2.2.2, hr.2.2.1⟩ (by omega)).s3) ha hb hc hd
  rcases or_t (srtA_t ck1_all h1 h2 h3 h4) with h | h
  · exfalso
    have e : (Nat.beq (a % 4) 0 && (Nat.beq (b % 4) 0 && (Nat.beq (c % 4) 0 && Nat.beq (d % 4) 0))) = true := by rw [hr.1, hr.2.1, hr.2.2.1, hr.2.2.2]; rfl
    rw [e] at h
    exact absurd h (by decide)
  rcases or_t h with h | h
  · have := Nat.eq_of_beq_eq_true h
    exact absurd ⟨by omega, by omega, by omega, this⟩ hn
  · rw [frcB_eq, frcB_eq] at h
    obtain ⟨g1, g2⟩ := and_t h
    exact row_q g1 g2 (fun z hz => row_bd hr (by omega) (by omega) (by omega) h4 hz)
