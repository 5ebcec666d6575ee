theorem bv_nat {n : Nat} (h : n < 2147483648) : (Int32.ofInt (n : Int)).toBitVec.toNat = n := by
  rw [Int32.toBitVec_ofInt, BitVec.toNat_ofInt]
  omega
theorem int_of_bv {x : Int32} (h : x.toBitVec.toNat < 2147483648) : x.toInt = (x.toBitVec.toNat : Int) := by
  show x.toBitVec.toInt = _
  exact BitVec.toInt_eq_toNat_of_lt (by omega)
theorem bandI_nat {a b : Nat} (ha : a < 2147483648) (hb : b < 2147483648) : bandI a b = ((a &&& b : Nat) : Int) := by
  have e : (Int32.ofInt (a : Int) &&& Int32.ofInt (b : Int)).toBitVec.toNat = a &&& b := by
    show ((Int32.ofInt (a : Int)).toBitVec &&& (Int32.ofInt (b : Int)).toBitVec).toNat = _
    rw [BitVec.toNat_and, bv_nat ha, bv_nat hb]
  unfold bandI
  rw [int_of_bv (by rw [e]; exact Nat.lt_of_le_of_lt Nat.and_le_left ha), e]
theorem borI_nat {a b : Nat} (ha : a < 2147483648) (hb : b < 2147483648) : borI a b = ((a ||| b : Nat) : Int) := by
  have e : (Int32.ofInt (a : Int) ||| Int32.ofInt (b : Int)).toBitVec.toNat = a ||| b := by
    show ((Int32.ofInt (a : Int)).toBitVec ||| (Int32.ofInt (b : Int)).toBitVec).toNat = _
    rw [BitVec.toNat_or, bv_nat ha, bv_nat hb]
  unfold borI
  rw [int_of_bv (by rw [e]; exact Nat.or_lt_two_pow (n := 31) ha hb), e]
/-- a and not b -/
theorem bandn_nat {a b : Nat} (ha : a < 2147483648) (hb : b < 2147483648) : ∃ r : Nat, bandI a (bxorI b (-1)) = (r : Int) ∧ r ≤ a ∧ ∀ k, k < 31 → r.testBit k = (a.testBit k && !b.testBit k) := by
  have e : (Int32.ofInt (a : Int) &&& Int32.ofInt (bxorI b (-1))).toBitVec = (Int32.ofInt (a : Int)).toBitVec &&& ~~~(Int32.ofInt (b : Int)).toBitVec := by
    unfold bxorI
    rw [Int32.ofInt_toInt]
    show (Int32.ofInt (a : Int)).toBitVec &&& ((Int32.ofInt (b : Int)).toBitVec ^^^ (Int32.ofInt (-1)).toBitVec) = _
    rw [show (Int32.ofInt (-1)).toBitVec = BitVec.allOnes 32 by decide, BitVec.xor_allOnes]
  have h1 : (Int32.ofInt (a : Int) &&& Int32.ofInt (bxorI b (-1))).toBitVec.toNat ≤ a := by
    rw [e, BitVec.toNat_and, bv_nat ha]
    exact Nat.and_le_left
  refine ⟨(Int32.ofInt (a : Int) &&& Int32.ofInt (bxorI b (-1))).toBitVec.toNat, ?_, h1, fun k hk => ?_⟩
  · unfold bandI
    rw [int_of_bv (by omega)]
  · rw [e, BitVec.toNat_and, Nat.testBit_and, bv_nat ha]
    congr 1
    rw [BitVec.testBit_toNat, BitVec.getLsbD_not, ← BitVec.testBit_toNat, bv_nat hb]
    simp
    omega
theorem sh_amt : ∀ k : Fin 31, ((Int32.ofInt (k.val : Int) &&& 31).toBitVec.smod 32).toNat = k.val := by decide +kernel
theorem shlI_eq {x : Int} {k : Nat} (h0 : 0 ≤ x) (hk : k < 31) (h : x * 2 ^ k < 2147483648) : shlI x k = x * 2 ^ k := by
  obtain ⟨n, rfl⟩ : ∃ n : Nat, x = (n : Int) := ⟨x.toNat, by omega⟩
  have hpe : ((n * 2 ^ k : Nat) : Int) = (n : Int) * 2 ^ k := by push_cast; rfl
  have hp : n * 2 ^ k < 2147483648 := by omega
  have hn : n < 2147483648 := Nat.lt_of_le_of_lt (Nat.le_mul_of_pos_right n (Nat.two_pow_pos k)) hp
  have e : (Int32.ofInt (n : Int) <<< (Int32.ofInt (k : Int) &&& 31)).toBitVec.toNat = n * 2 ^ k := by
    show ((Int32.ofInt (n : Int)).toBitVec <<< (Int32.ofInt (k : Int) &&& 31).toBitVec.smod 32).toNat = _
    rw [BitVec.shiftLeft_eq', sh_amt ⟨k, hk⟩, BitVec.toNat_shiftLeft, bv_nat hn, Nat.shiftLeft_eq]
    show n * 2 ^ k % 2 ^ 32 = _
    exact Nat.mod_eq_of_lt (by omega)
  unfold shlI
  rw [int_of_bv (by rw [e]; exact hp), e]
  push_cast
  rfl
theorem shrI_eq {x : Int} {k : Nat} (hx : inR x) (hk : k < 31) : shrI x k = x / 2 ^ k := by
  unfold shrI
  show ((Int32.ofInt x).toBitVec.sshiftRight' ((Int32.ofInt (k : Int) &&& 31).toBitVec.smod 32)).toInt = _
  rw [BitVec.toInt_sshiftRight', sh_amt ⟨k, hk⟩]
  show (Int32.ofInt x).toInt >>> k = _
  rw [oi_toInt hx, Int.shiftRight_eq_div_pow]
  push_cast
  rfl
/-- bit k of x -/
def bt (x : Int) (k : Nat) : Int := x / 2 ^ k % 2
theorem bt_nat (n k : Nat) : bt n k = if n.testBit k then 1 else 0 := by
  rw [Nat.testBit_eq_decide_div_mod_eq]
  unfold bt
  have e : (n : Int) / 2 ^ k % 2 = ((n / 2 ^ k % 2 : Nat) : Int) := by push_cast; rfl
  rw [e]
  have := Nat.mod_lt (n / 2 ^ k) (show 0 < 2 by decide)
  by_cases h : n / 2 ^ k % 2 = 1
  · rw [h]; simp
  · rw [show n / 2 ^ k % 2 = 0 by omega]; simp
theorem bt_01 (x : Int) (k : Nat) : bt x k = 0 ∨ bt x k = 1 := by unfold bt; omega
theorem band1 {x : Int} (h : 0 ≤ x) (h2 : x < 2147483648) : bandI x 1 = x % 2 := by
  obtain ⟨n, rfl⟩ : ∃ n : Nat, x = (n : Int) := ⟨x.toNat, by omega⟩
  have := bandI_nat (a := n) (b := 1) (by omega) (by decide)
  rw [Nat.and_one_is_mod] at this
  rw [show bandI (n : Int) 1 = bandI (n : Int) ((1 : Nat) : Int) from rfl, this]
  push_cast
  rfl
def bsum (x : Int) : Nat → Int
  | 0 => 0
  | k + 1 => bsum x k + bt x k
def tf (P : Prop) (v : Int) : Prop := v = 1 ∧ P ∨ v = 0 ∧ ¬ P
theorem s5_isOn {d : Nat} {I : IE} {F : FE} {e : Nat} (he : e < 16) (ha : 0 ≤ I 1 5 ∧ I 1 5 < 65536) : MP m5_isOn d shX [rv 1, iv e] I F (tf (bt (I 1 5) e = 1)) := by
  have e1 : shrI (I 1 5) e = I 1 5 / 2 ^ e := shrI_eq ⟨by omega, by omega⟩ (by omega)
  have h0 : 0 ≤ I 1 5 / 2 ^ e := Int.ediv_nonneg ha.1 (Int.le_of_lt (Int.pow_pos (by decide)))
  have h1 : I 1 5 / 2 ^ e ≤ I 1 5 := Int.ediv_le_self _ ha.1
  have e2 : bandI (shrI (I 1 5) e) 1 = bt (I 1 5) e := by rw [e1, band1 h0 (by omega)]; rfl
  refine MS_of (ls := [lr 1, li e]) f5_isOn rfl rfl (Nat.le_of_ble_eq_true rfl) ?_
  refine w_aload i5_isOn_0 rfl ?_
  refine w_get i5_isOn_1 rfl rfl ?_
  refine w_iload i5_isOn_4 rfl ?_
  refine w_ishr i5_isOn_5 ?_
  refine w_const i5_isOn_6 ?_
  refine w_iand i5_isOn_7 ?_
  rw [e2]
  refine w_const i5_isOn_8 ?_
  refine w_icmpne i5_isOn_9 (fun h9 => ?_) (fun h9 => ?_)
  · refine w_const i5_isOn_16 ?_
    refine w_iret i5_isOn_17 (Or.inr ⟨rfl, by omega⟩) ⟨Nat.le_refl _, Nat.le_refl _⟩ ?_
    first
    | exact ⟨rfl, _, rfl, Or.inl ⟨rfl, h9⟩, rfl, rfl⟩
    | exact ⟨rfl, _, rfl, Or.inr ⟨rfl, h9⟩, rfl, rfl⟩
  · refine w_const i5_isOn_12 ?_
    refine w_goto i5_isOn_13 ?_
    refine w_iret i5_isOn_17 (Or.inr ⟨rfl, by omega⟩) ⟨Nat.le_refl _, Nat.le_refl _⟩ ?_
    first
    | exact ⟨rfl, _, rfl, Or.inl ⟨rfl, h9⟩, rfl, rfl⟩
    | exact ⟨rfl, _, rfl, Or.inr ⟨rfl, h9⟩, rfl, rfl⟩
theorem shl1 {e : Nat} (he : e < 16) : shlI 1 e = ((2 ^ e : Nat) : Int) := by
  rw [shlI_eq (by decide) (by omega)]
  · push_cast; omega
  · have : (2 : Int) ^ e ≤ 2 ^ 15 := by exact_mod_cast Nat.pow_le_pow_right (n := 2) (by decide) (show e ≤ 15 by omega)
    omega
theorem s5_switchTo {d : Nat} {I : IE} {F : FE} {e : Nat} {on : Int} (he : e < 16) (hon : on = 0 ∨ on = 1) (ha : 0 ≤ I 1 5 ∧ I 1 5 < 65536) :
    MU m5_switchTo d shX [rv 1, iv e, iv on] I F (fun I' F' => F' = F ∧ ∃ x, I' = upI I 1 5 x ∧ 0 ≤ x ∧ x < 65536 ∧ ∀ k, k < 16 → bt x k = if k = e then on else bt (I 1 5) k) := by
  obtain ⟨n, hn⟩ : ∃ n : Nat, I 1 5 = (n : Int) := ⟨(I 1 5).toNat, by omega⟩
  have hp : 2 ^ e < 65536 := Nat.pow_lt_pow_right (by decide) he
  refine MS_of (ls := [lr 1, li e, li on, lu]) f5_switchTo rfl rfl (Nat.le_of_ble_eq_true rfl) ?_
  refine w_const i5_switchTo_0 ?_
  refine w_iload i5_switchTo_1 rfl ?_
  refine w_ishl i5_switchTo_2 ?_
  rw [shl1 he]
  refine w_is3 i5_switchTo_3 ?_
  refine w_aload i5_switchTo_4 rfl ?_
  refine w_iload i5_switchTo_5 rfl ?_
  refine w_ifeq i5_switchTo_6 (fun h6 => ?_) (fun h6 => ?_)
  · refine w_aload i5_switchTo_18 rfl ?_
    refine w_get i5_switchTo_19 rfl rfl ?_
    rw [hn]
    refine w_iload i5_switchTo_22 rfl ?_
    refine w_const i5_switchTo_23 ?_
    refine w_ixor i5_switchTo_24 ?_
    refine w_iand i5_switchTo_25 ?_
    refine w_put i5_switchTo_26 rfl rfl (Or.inl rfl) ?_
    refine w_vret i5_switchTo_29 rfl ⟨Nat.le_refl _, Nat.le_refl _⟩ ?_
    first
    | (rw [borI_nat (by omega) (by omega)]
       have h16 : n ||| 2 ^ e < 2 ^ 16 := Nat.or_lt_two_pow (by omega) hp
       refine ⟨rfl, rfl, rfl, _, rfl, by omega, by omega, fun k hk => ?_⟩
       rw [bt_nat, bt_nat, Nat.testBit_or, Nat.testBit_two_pow]
       have : on = 1 := by omega
       subst this
       by_cases hke : k = e
       · rw [if_pos hke]; simp [hke]
       · rw [if_neg hke]; simp [Ne.symm hke])
    | (obtain ⟨r, hr, hle, hb⟩ := bandn_nat (a := n) (b := 2 ^ e) (by omega) (by omega)
       rw [hr]
       refine ⟨rfl, rfl, rfl, _, rfl, by omega, by omega, fun k hk => ?_⟩
       rw [bt_nat, bt_nat, hb k (by omega), Nat.testBit_two_pow]
       have : on = 0 := by omega
       subst this
       by_cases hke : k = e
       · rw [if_pos hke]; simp [hke]
       · rw [if_neg hke]; simp [Ne.symm hke])
  · refine w_aload i5_switchTo_9 rfl ?_
    refine w_get i5_switchTo_10 rfl rfl ?_
    rw [hn]
    refine w_iload i5_switchTo_13 rfl ?_
    refine w_ior i5_switchTo_14 ?_
    refine w_goto i5_switchTo_15 ?_
    refine w_put i5_switchTo_26 rfl rfl (Or.inl rfl) ?_
    refine w_vret i5_switchTo_29 rfl ⟨Nat.le_refl _, Nat.le_refl _⟩ ?_
    first
    | (rw [borI_nat (by omega) (by omega)]
       have h16 : n ||| 2 ^ e < 2 ^ 16 := Nat.or_lt_two_pow (by omega) hp
       refine ⟨rfl, rfl, rfl, _, rfl, by omega, by omega, fun k hk => ?_⟩
       rw [bt_nat, bt_nat, Nat.testBit_or, Nat.testBit_two_pow]
       have : on = 1 := by omega
       subst this
       by_cases hke : k = e
       · rw [if_pos hke]; simp [hke]
       · rw [if_neg hke]; simp [Ne.symm hke])
    | (obtain ⟨r, hr, hle, hb⟩ := bandn_nat (a := n) (b := 2 ^ e) (by omega) (by omega)
       rw [hr]
       refine ⟨rfl, rfl, rfl, _, rfl, by omega, by omega, fun k hk => ?_⟩
       rw [bt_nat, bt_nat, hb k (by omega), Nat.testBit_two_pow]
       have : on = 0 := by omega
       subst this
       by_cases hke : k = e
       · rw [if_pos hke]; simp [hke]
       · rw [if_neg hke]; simp [Ne.symm hke])
theorem s5_switchAllOn {d : Nat} {I : IE} {F : FE} {e : Nat} (he : e ≤ 16) :
    MU m5_switchAllOn d shX [rv 1, iv e] I F (fun I' F' => F' = F ∧ ∃ x, I' = upI I 1 5 x ∧ 0 ≤ x ∧ x < 65536 ∧ ∀ k, k < 16 → bt x k = if k < e then 1 else 0) := by
  have hp : 2 ^ e ≤ 2 ^ 16 := Nat.pow_le_pow_right (by decide) he
  have hp1 : 1 ≤ 2 ^ e := Nat.one_le_two_pow
  have e1 : shlI 1 e = ((2 ^ e : Nat) : Int) := by
    rw [shlI_eq (by decide) (by omega)]
    · push_cast; omega
    · have : (2 : Int) ^ e ≤ 2 ^ 16 := by exact_mod_cast hp
      omega
  have e2 : ((2 ^ e : Nat) : Int) - 1 = ((2 ^ e - 1 : Nat) : Int) := by omega
  refine MS_of (ls := [lr 1, li e]) f5_switchAllOn rfl rfl (Nat.le_of_ble_eq_true rfl) ?_
  refine w_aload i5_switchAllOn_0 rfl ?_
  refine w_const i5_switchAllOn_1 ?_
  refine w_iload i5_switchAllOn_2 rfl ?_
  refine w_ishl i5_switchAllOn_3 ?_
  rw [e1]
  refine w_const i5_switchAllOn_4 ?_
  refine w_isub i5_switchAllOn_5 (by omega) ?_
  rw [e2]
  refine w_put i5_switchAllOn_6 rfl rfl (Or.inl rfl) ?_
  refine w_vret i5_switchAllOn_9 rfl ⟨Nat.le_refl _, Nat.le_refl _⟩ ?_
  refine ⟨rfl, rfl, rfl, _, rfl, by omega, by omega, fun k hk => ?_⟩
  rw [bt_nat, Nat.testBit_two_pow_sub_one]
  simp
