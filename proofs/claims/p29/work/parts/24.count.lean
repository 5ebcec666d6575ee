theorem ush_amt : ∀ k : Fin 32, ((Int32.ofInt (k.val : Int)).toUInt32 &&& Int32.toUInt32 31).toNat = k.val := by decide +kernel
theorem ush_nat {n k : Nat} (hn : n < 2147483648) (hk : k < 32) : ushrI n k = ((n / 2 ^ k : Nat) : Int) := by
  unfold ushrI
  have e1 := bv_nat hn
  have e2 := ush_amt ⟨k, hk⟩
  have e3 : (((Int32.ofInt (n : Int)).toUInt32 >>> ((Int32.ofInt (k : Int)).toUInt32 &&& Int32.toUInt32 31)).toInt32).toBitVec.toNat = n / 2 ^ k := by
    have h1 : (((Int32.ofInt (n : Int)).toUInt32 >>> ((Int32.ofInt (k : Int)).toUInt32 &&& Int32.toUInt32 31)).toInt32).toBitVec.toNat = ((Int32.ofInt (n : Int)).toUInt32 >>> ((Int32.ofInt (k : Int)).toUInt32 &&& Int32.toUInt32 31)).toNat := rfl
    rw [h1, UInt32.toNat_shiftRight, e2]
    have h2 : (Int32.ofInt (n : Int)).toUInt32.toNat = n := e1
    rw [h2, Nat.mod_eq_of_lt hk, Nat.shiftRight_eq_div_pow]
  have h4 : n / 2 ^ k ≤ n := Nat.div_le_self _ _
  rw [int_of_bv (by rw [e3]; omega), e3]
def alln (p : Nat → Bool) : Nat → Bool
  | 0 => true
  | n + 1 => p n && alln p n
theorem alln_at {p : Nat → Bool} : ∀ {n : Nat}, alln p n = true → ∀ i, i < n → p i = true
  | 0, _, i, hi => absurd hi (Nat.not_lt_zero _)
  | n + 1, h, i, hi => by
    simp only [alln, Bool.and_eq_true] at h
    by_cases e : i = n
    · rw [e]; exact h.1
    · exact alln_at h.2 i (by omega)
def pc1 (n : Nat) : Nat := n - (n / 2 &&& 1431655765)
def pc2 (n : Nat) : Nat := (n &&& 858993459) + (n / 4 &&& 858993459)
def pc3 (n : Nat) : Nat := n + n / 16 &&& 252645135
def pc4 (n : Nat) : Nat := n + n / 256
def pc5 (n : Nat) : Nat := n + n / 65536
def pcn (n : Nat) : Nat → Nat
  | 0 => 0
  | k + 1 => pcn n k + n / 2 ^ k % 2
def pcs (n : Nat) : Nat := pcn n 16
theorem and_split (x y : Nat) : (x &&& y) = 256 * (x / 256 &&& y / 256) + (x % 256 &&& y % 256) := by
  have h1 : (x &&& y) / 2 ^ 8 = x / 2 ^ 8 &&& y / 2 ^ 8 := Nat.and_div_two_pow
  have h2 : (x &&& y) % 2 ^ 8 = x % 2 ^ 8 &&& y % 2 ^ 8 := Nat.and_mod_two_pow
  have e : (2 : Nat) ^ 8 = 256 := by decide
  rw [e] at h1 h2
  omega
def pb1 (n : Nat) : Nat := n - (n / 2 &&& 85)
def pb2 (n : Nat) : Nat := (n &&& 51) + (n / 4 &&& 51)
def pb3 (n : Nat) : Nat := (n + n / 16) % 16
theorem pb_all : alln (fun b => alln (fun t => (b / 2 + 128 * t &&& 85) == (b / 2 &&& 85)) 2 && alln (fun t => (b / 4 + 64 * t &&& 51) == (b / 4 &&& 51)) 4 && (pb3 (pb2 (pb1 b)) == pcn b 8) && decide (pb2 (pb1 b) % 16 ≤ 4) && decide (pb2 (pb1 b) / 16 ≤ 4) && decide (pb1 b ≤ b)) 256 = true := by decide +kernel
theorem pb_at {b : Nat} (h : b < 256) : (∀ t, t < 2 → (b / 2 + 128 * t &&& 85) = (b / 2 &&& 85)) ∧ (∀ t, t < 4 → (b / 4 + 64 * t &&& 51) = (b / 4 &&& 51)) ∧ pb3 (pb2 (pb1 b)) = pcn b 8 ∧ pb2 (pb1 b) % 16 ≤ 4 ∧ pb2 (pb1 b) / 16 ≤ 4 ∧ pb1 b ≤ b := by
  have := alln_at pb_all b h
  simp only [Bool.and_eq_true, decide_eq_true_eq, beq_iff_eq] at this
  obtain ⟨⟨⟨⟨⟨h1, h2⟩, h3⟩, h4⟩, h5⟩, h6⟩ := this
  exact ⟨fun t ht => by simpa using alln_at h1 t ht, fun t ht => by simpa using alln_at h2 t ht, h3, h4, h5, h6⟩
theorem pc1_s {n : Nat} (h : n < 65536) : pc1 n = 256 * pb1 (n / 256) + pb1 (n % 256) := by
  have hA := (pb_at (show n % 256 < 256 by omega)).1 (n / 256 % 2) (by omega)
  have s1 := and_split (n / 2) 1431655765
  have s2 := and_split (n / 2 / 256) (1431655765 / 256)
  have z : n / 2 / 256 / 256 = 0 := by omega
  rw [z, Nat.zero_and, show 1431655765 / 256 % 256 = 85 by decide, show n / 2 / 256 % 256 = n / 256 / 2 by omega] at s2
  rw [s2, show 1431655765 % 256 = 85 by decide, show n / 2 % 256 = n % 256 / 2 + 128 * (n / 256 % 2) by omega, hA] at s1
  have l1 : n / 256 / 2 &&& 85 ≤ n / 256 / 2 := Nat.and_le_left
  have l2 : n % 256 / 2 &&& 85 ≤ n % 256 / 2 := Nat.and_le_left
  unfold pc1 pb1
  omega
theorem pc2_s {a b : Nat} (ha : a < 256) (hb : b < 256) : pc2 (256 * a + b) = 256 * pb2 a + pb2 b := by
  have hA := (pb_at hb).2.1 (a % 4) (by omega)
  have s1 := and_split (256 * a + b) 858993459
  have s2 := and_split a (858993459 / 256)
  have s3 := and_split ((256 * a + b) / 4) 858993459
  have s4 := and_split (a / 4) (858993459 / 256)
  rw [show a / 256 = 0 by omega, Nat.zero_and, show 858993459 / 256 % 256 = 51 by decide, show a % 256 = a by omega] at s2
  rw [show a / 4 / 256 = 0 by omega, Nat.zero_and, show 858993459 / 256 % 256 = 51 by decide, show a / 4 % 256 = a / 4 by omega] at s4
  rw [show (256 * a + b) / 256 = a by omega, s2, show (256 * a + b) % 256 = b by omega, show 858993459 % 256 = 51 by decide] at s1
  rw [show (256 * a + b) / 4 / 256 = a / 4 by omega, s4, show (256 * a + b) / 4 % 256 = b / 4 + 64 * (a % 4) by omega, show 858993459 % 256 = 51 by decide, hA] at s3
  unfold pc2 pb2
  omega
theorem and15 (x : Nat) : (x &&& 15) = x % 16 := Nat.and_two_pow_sub_one_eq_mod x 4
theorem and63 (x : Nat) : (x &&& 63) = x % 64 := Nat.and_two_pow_sub_one_eq_mod x 6
theorem pc3_s {a b : Nat} (ha : a % 16 ≤ 4 ∧ a / 16 ≤ 4) (hb : b % 16 ≤ 4 ∧ b / 16 ≤ 4) : pc3 (256 * a + b) = 256 * pb3 a + pb3 b := by
  have s1 := and_split (256 * a + b + (256 * a + b) / 16) 252645135
  have s2 := and_split (a + a / 16) (252645135 / 256)
  rw [show (a + a / 16) / 256 = 0 by omega, Nat.zero_and, show 252645135 / 256 % 256 = 15 by decide, show (a + a / 16) % 256 = a + a / 16 by omega, and15] at s2
  rw [show (256 * a + b + (256 * a + b) / 16) / 256 = a + a / 16 by omega, s2, show 252645135 % 256 = 15 by decide, and15] at s1
  unfold pc3 pb3
  omega
theorem pcn_low {n : Nat} : ∀ k : Nat, k ≤ 8 → pcn n k = pcn (n % 256) k
  | 0, _ => rfl
  | k + 1, h => by
    simp only [pcn]
    rw [pcn_low k (by omega)]
    have : n / 2 ^ k % 2 = n % 256 / 2 ^ k % 2 := by
      have hk : k = 0 ∨ k = 1 ∨ k = 2 ∨ k = 3 ∨ k = 4 ∨ k = 5 ∨ k = 6 ∨ k = 7 := by omega
      rcases hk with rfl | rfl | rfl | rfl | rfl | rfl | rfl | rfl <;> simp only [Nat.reducePow] <;> omega
    rw [this]
theorem pcn_hi {n : Nat} : ∀ k : Nat, pcn n (8 + k) = pcn n 8 + pcn (n / 256) k
  | 0 => rfl
  | k + 1 => by
    show pcn n (8 + k) + n / 2 ^ (8 + k) % 2 = pcn n 8 + (pcn (n / 256) k + n / 256 / 2 ^ k % 2)
    rw [pcn_hi k, Nat.pow_add, ← Nat.div_div_eq_div_mul, Nat.add_assoc]
theorem pcn_le {n : Nat} : ∀ k : Nat, pcn n k ≤ k
  | 0 => Nat.le_refl _
  | k + 1 => by
    have := pcn_le (n := n) k
    simp only [pcn]
    omega
theorem pc_ok {n : Nat} (h : n < 65536) : (pc5 (pc4 (pc3 (pc2 (pc1 n)))) &&& 63) = pcs n := by
  obtain ⟨-, -, a3, a4, a5, a6⟩ := pb_at (show n / 256 < 256 by omega)
  obtain ⟨-, -, b3, b4, b5, b6⟩ := pb_at (show n % 256 < 256 by omega)
  rw [pc1_s h, pc2_s (by omega) (by omega), pc3_s ⟨a4, a5⟩ ⟨b4, b5⟩, and63]
  have e : pcs n = pcn (n % 256) 8 + pcn (n / 256) 8 := by
    unfold pcs
    rw [show (16 : Nat) = 8 + 8 from rfl, pcn_hi 8, pcn_low 8 (Nat.le_refl _)]
  rw [e, ← a3, ← b3]
  have a7 : pb3 (pb2 (pb1 (n / 256))) ≤ 8 := by rw [a3]; exact pcn_le 8
  have b7 : pb3 (pb2 (pb1 (n % 256))) ≤ 8 := by rw [b3]; exact pcn_le 8
  generalize pb3 (pb2 (pb1 (n / 256))) = u at a7 ⊢
  generalize pb3 (pb2 (pb1 (n % 256))) = v at b7 ⊢
  have e4 : pc4 (256 * u + v) = 64 * (4 * u) + (v + u) := by unfold pc4; omega
  have e5 : pc5 (64 * (4 * u) + (v + u)) = 64 * (4 * u) + (v + u) := by unfold pc5; omega
  rw [e4, e5, Nat.mul_add_mod, Nat.mod_eq_of_lt (by omega)]
theorem pcn_bsum {n : Nat} : ∀ k : Nat, ((pcn n k : Nat) : Int) = bsum n k
  | 0 => rfl
  | k + 1 => by
    have e : bt (n : Int) k = ((n / 2 ^ k % 2 : Nat) : Int) := by unfold bt; push_cast; rfl
    simp only [pcn, bsum]
    rw [e, ← pcn_bsum k]
    push_cast
    rfl
theorem pcs_bsum {n : Nat} : ((pcs n : Nat) : Int) = bsum n 16 := pcn_bsum 16
theorem sJ_bitCount {d : Nat} {sh : Shp} {I : IE} {F : FE} {x : Int} (hx : 0 ≤ x ∧ x < 65536) : MR mJ6_bitCount_0f7a4 d sh [iv x] I F (bsum x 16) := by
  obtain ⟨n, rfl⟩ : ∃ n : Nat, x = (n : Int) := ⟨x.toNat, by omega⟩
  have hn : n < 65536 := by omega
  have l1 : n / 2 &&& 1431655765 ≤ n / 2 := Nat.and_le_left
  have b1 : pc1 n ≤ n := by unfold pc1; omega
  have l2 : pc1 n &&& 858993459 ≤ pc1 n := Nat.and_le_left
  have l3 : pc1 n / 4 &&& 858993459 ≤ pc1 n / 4 := Nat.and_le_left
  have b2 : pc2 (pc1 n) ≤ 2 * pc1 n := by unfold pc2; omega
  have b3 : pc3 (pc2 (pc1 n)) ≤ pc2 (pc1 n) + pc2 (pc1 n) / 16 := Nat.and_le_left
  have b4 : pc4 (pc3 (pc2 (pc1 n))) ≤ 2 * pc3 (pc2 (pc1 n)) := by unfold pc4; omega
  have b5 : pc5 (pc4 (pc3 (pc2 (pc1 n)))) ≤ 2 * pc4 (pc3 (pc2 (pc1 n))) := by unfold pc5; omega
  have e1 : bandI (ushrI n 1) 1431655765 = ((n / 2 &&& 1431655765 : Nat) : Int) := by
    rw [show (1 : Int) = ((1 : Nat) : Int) from rfl, ush_nat (by omega) (by decide)]
    exact bandI_nat (by omega) (by decide)
  have e1b : (n : Int) - ((n / 2 &&& 1431655765 : Nat) : Int) = (pc1 n : Int) := by unfold pc1; omega
  have e2 : bandI (pc1 n) 858993459 = ((pc1 n &&& 858993459 : Nat) : Int) := bandI_nat (by omega) (by decide)
  have e3 : bandI (ushrI (pc1 n) 2) 858993459 = ((pc1 n / 4 &&& 858993459 : Nat) : Int) := by
    rw [show (2 : Int) = ((2 : Nat) : Int) from rfl, ush_nat (by omega) (by decide)]
    exact bandI_nat (by omega) (by decide)
  have e3b : ((pc1 n &&& 858993459 : Nat) : Int) + ((pc1 n / 4 &&& 858993459 : Nat) : Int) = (pc2 (pc1 n) : Int) := by unfold pc2; omega
  have e4 : ushrI (pc2 (pc1 n)) 4 = ((pc2 (pc1 n) / 16 : Nat) : Int) := by
    rw [show (4 : Int) = ((4 : Nat) : Int) from rfl, ush_nat (by omega) (by decide)]
  have e4b : bandI ((pc2 (pc1 n) : Int) + ((pc2 (pc1 n) / 16 : Nat) : Int)) 252645135 = (pc3 (pc2 (pc1 n)) : Int) := by
    rw [show (pc2 (pc1 n) : Int) + ((pc2 (pc1 n) / 16 : Nat) : Int) = ((pc2 (pc1 n) + pc2 (pc1 n) / 16 : Nat) : Int) by omega]
    exact bandI_nat (by omega) (by decide)
  have e5 : ushrI (pc3 (pc2 (pc1 n))) 8 = ((pc3 (pc2 (pc1 n)) / 256 : Nat) : Int) := by
    rw [show (8 : Int) = ((8 : Nat) : Int) from rfl, ush_nat (by omega) (by decide)]
  have e5b : (pc3 (pc2 (pc1 n)) : Int) + ((pc3 (pc2 (pc1 n)) / 256 : Nat) : Int) = (pc4 (pc3 (pc2 (pc1 n))) : Int) := by unfold pc4; omega
  have e6 : ushrI (pc4 (pc3 (pc2 (pc1 n)))) 16 = ((pc4 (pc3 (pc2 (pc1 n))) / 65536 : Nat) : Int) := by
    rw [show (16 : Int) = ((16 : Nat) : Int) from rfl, ush_nat (by omega) (by decide)]
  have e6b : (pc4 (pc3 (pc2 (pc1 n))) : Int) + ((pc4 (pc3 (pc2 (pc1 n))) / 65536 : Nat) : Int) = (pc5 (pc4 (pc3 (pc2 (pc1 n)))) : Int) := by unfold pc5; omega
  have e7 : bandI (pc5 (pc4 (pc3 (pc2 (pc1 n))))) 63 = bsum n 16 := by
    rw [show bandI (pc5 (pc4 (pc3 (pc2 (pc1 n))))) 63 = ((pc5 (pc4 (pc3 (pc2 (pc1 n)))) &&& 63 : Nat) : Int) from bandI_nat (by omega) (by decide), pc_ok hn, pcs_bsum]
  refine MS_of (ls := [li n]) fJ6_bitCount_0f7a4 rfl rfl (Nat.le_of_ble_eq_true rfl) ?_
  refine w_iload iJ6_bitCount_0f7a4_0 rfl ?_
  refine w_iload iJ6_bitCount_0f7a4_1 rfl ?_
  refine w_const iJ6_bitCount_0f7a4_2 ?_
  refine w_iushr iJ6_bitCount_0f7a4_3 ?_
  refine w_ldc iJ6_bitCount_0f7a4_4 ?_
  refine w_iand iJ6_bitCount_0f7a4_7 ?_
  rw [e1]
  refine w_isub iJ6_bitCount_0f7a4_8 (by omega) ?_
  rw [e1b]
  refine w_is0 iJ6_bitCount_0f7a4_9 ?_
  refine w_iload iJ6_bitCount_0f7a4_10 rfl ?_
  refine w_ldc iJ6_bitCount_0f7a4_11 ?_
  refine w_iand iJ6_bitCount_0f7a4_14 ?_
  refine w_iload iJ6_bitCount_0f7a4_15 rfl ?_
  refine w_const iJ6_bitCount_0f7a4_16 ?_
  refine w_iushr iJ6_bitCount_0f7a4_17 ?_
  refine w_ldc iJ6_bitCount_0f7a4_18 ?_
  refine w_iand iJ6_bitCount_0f7a4_21 ?_
  rw [e2, e3]
  refine w_iadd iJ6_bitCount_0f7a4_22 (by omega) ?_
  rw [e3b]
  refine w_is0 iJ6_bitCount_0f7a4_23 ?_
  refine w_iload iJ6_bitCount_0f7a4_24 rfl ?_
  refine w_iload iJ6_bitCount_0f7a4_25 rfl ?_
  refine w_const iJ6_bitCount_0f7a4_26 ?_
  refine w_iushr iJ6_bitCount_0f7a4_27 ?_
  rw [e4]
  refine w_iadd iJ6_bitCount_0f7a4_28 (by omega) ?_
  refine w_ldc iJ6_bitCount_0f7a4_29 ?_
  refine w_iand iJ6_bitCount_0f7a4_32 ?_
  rw [e4b]
  refine w_is0 iJ6_bitCount_0f7a4_33 ?_
  refine w_iload iJ6_bitCount_0f7a4_34 rfl ?_
  refine w_iload iJ6_bitCount_0f7a4_35 rfl ?_
  refine w_const iJ6_bitCount_0f7a4_36 ?_
  refine w_iushr iJ6_bitCount_0f7a4_38 ?_
  rw [e5]
  refine w_iadd iJ6_bitCount_0f7a4_39 (by omega) ?_
  rw [e5b]
  refine w_is0 iJ6_bitCount_0f7a4_40 ?_
  refine w_iload iJ6_bitCount_0f7a4_41 rfl ?_
  refine w_iload iJ6_bitCount_0f7a4_42 rfl ?_
  refine w_const iJ6_bitCount_0f7a4_43 ?_
  refine w_iushr iJ6_bitCount_0f7a4_45 ?_
  rw [e6]
  refine w_iadd iJ6_bitCount_0f7a4_46 (by omega) ?_
  rw [e6b]
  refine w_is0 iJ6_bitCount_0f7a4_47 ?_
  refine w_iload iJ6_bitCount_0f7a4_48 rfl ?_
  refine w_const iJ6_bitCount_0f7a4_49 ?_
  refine w_iand iJ6_bitCount_0f7a4_51 ?_
  rw [e7]
  refine w_iret iJ6_bitCount_0f7a4_52 (Or.inl rfl) ⟨Nat.le_refl _, Nat.le_refl _⟩ ?_
  exact ⟨rfl, rfl, rfl, rfl⟩
theorem s5_countOn {d : Nat} {I : IE} {F : FE} (hd : 1 ≤ d) (ha : 0 ≤ I 1 5 ∧ I 1 5 < 65536) : MR m5_countOn d shX [rv 1] I F (bsum (I 1 5) 16) := by
  refine MS_of (ls := [lr 1]) f5_countOn rfl rfl (Nat.le_of_ble_eq_true rfl) ?_
  refine w_aload i5_countOn_0 rfl ?_
  refine w_get i5_countOn_1 rfl rfl ?_
  refine w_cSR i5_countOn_4 fJ6_bitCount_0f7a4 vJ6_bitCount_0f7a4 (sJ_bitCount ha) rfl rfl (Nat.le_of_ble_eq_true rfl) (by omega) ?_
  refine w_iret i5_countOn_7 (Or.inl rfl) ⟨Nat.le_refl _, Nat.le_refl _⟩ ?_
  exact ⟨rfl, rfl, rfl, rfl⟩
