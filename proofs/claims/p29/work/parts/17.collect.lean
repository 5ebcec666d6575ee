theorem rst_succ (w c : Int) : ∀ i, rst w c (i + 1) = rst w (c / w) i
  | 0 => rfl
  | i + 1 => by
    show rst w c (i + 1) / w = rst w (c / w) i / w
    rw [rst_succ w c i]
theorem dg_ex {w : Int} (hw : 2 ≤ w) : ∀ (fc : Nat) (d : Nat → Int), (∀ i, i < fc → 0 ≤ d i ∧ d i < w) → ∃ c, 0 ≤ c ∧ c < w ^ fc ∧ ∀ i, i < fc → rst w c i % w = d i
  | 0, d, _ => ⟨0, by decide, by simp, fun i hi => absurd hi (by omega)⟩
  | fc + 1, d, h => by
    obtain ⟨c, h1, h2, h3⟩ := dg_ex hw fc (fun i => d (i + 1)) (fun i hi => h (i + 1) (by omega))
    have h0 := h 0 (by omega)
    have e : (d 0 + w * c) / w = c := by
      rw [Int.add_mul_ediv_left _ _ (by omega), Int.ediv_eq_zero_of_lt h0.1 h0.2]; omega
    have hwc : 0 ≤ w * c := Int.mul_nonneg (by omega) h1
    have hle : w * c ≤ w * (w ^ fc - 1) := Int.mul_le_mul_of_nonneg_left (by omega) (by omega)
    have hp : w ^ (fc + 1) = w * w ^ fc := by rw [Int.pow_succ, Int.mul_comm]
    rw [Int.mul_sub] at hle
    refine ⟨d 0 + w * c, by omega, by omega, fun i hi => ?_⟩
    cases i with
    | zero =>
      show (d 0 + w * c) % w = d 0
      rw [Int.add_mul_emod_self_left, Int.emod_eq_of_lt h0.1 h0.2]
    | succ i =>
      rw [rst_succ, e]
      exact h3 i (by omega)
theorem dg_inj {w : Int} (hw : 2 ≤ w) : ∀ (fc : Nat) (c c' : Int), (0 ≤ c ∧ c < w ^ fc) → (0 ≤ c' ∧ c' < w ^ fc) → (∀ i, i < fc → rst w c i % w = rst w c' i % w) → c = c'
  | 0, c, c', h1, h2, _ => by simp at h1 h2; omega
  | fc + 1, c, c', h1, h2, h3 => by
    have hp : w ^ (fc + 1) = w * w ^ fc := by rw [Int.pow_succ, Int.mul_comm]
    have e0 : c % w = c' % w := h3 0 (by omega)
    have b1 : 0 ≤ c / w ∧ c / w < w ^ fc := ⟨Int.ediv_nonneg h1.1 (by omega), Int.ediv_lt_of_lt_mul (by omega) (by rw [Int.mul_comm]; omega)⟩
    have b2 : 0 ≤ c' / w ∧ c' / w < w ^ fc := ⟨Int.ediv_nonneg h2.1 (by omega), Int.ediv_lt_of_lt_mul (by omega) (by rw [Int.mul_comm]; omega)⟩
    have ih := dg_inj hw fc (c / w) (c' / w) b1 b2 (fun i hi => by
      have := h3 (i + 1) (by omega)
      rw [rst_succ, rst_succ] at this
      exact this)
    have q1 := Int.mul_ediv_add_emod c w
    have q2 := Int.mul_ediv_add_emod c' w
    rw [ih] at q1
    omega
theorem dg_mir {w : Int} (hw : 2 ≤ w) : ∀ (fc : Nat) (c : Int), (0 ≤ c ∧ c < w ^ fc) → ∀ i, i < fc → rst w (w ^ fc - 1 - c) i % w = w - 1 - rst w c i % w
  | 0, _, _, i, hi => absurd hi (by omega)
  | fc + 1, c, h1, i, hi => by
    have hp : w ^ (fc + 1) = w * w ^ fc := by rw [Int.pow_succ, Int.mul_comm]
    have b1 : 0 ≤ c / w ∧ c / w < w ^ fc := ⟨Int.ediv_nonneg h1.1 (by omega), Int.ediv_lt_of_lt_mul (by omega) (by rw [Int.mul_comm]; omega)⟩
    have q1 := Int.mul_ediv_add_emod c w
    have m1 := Int.emod_nonneg c (show w ≠ 0 by omega)
    have m2 := Int.emod_lt_of_pos c (show 0 < w by omega)
    have e : w ^ (fc + 1) - 1 - c = (w - 1 - c % w) + w * (w ^ fc - 1 - c / w) := by
      rw [hp, Int.mul_sub, Int.mul_sub]; omega
    cases i with
    | zero =>
      show (w ^ (fc + 1) - 1 - c) % w = w - 1 - c % w
      rw [e, Int.add_mul_emod_self_left, Int.emod_eq_of_lt (by omega) (by omega)]
    | succ i =>
      rw [rst_succ, rst_succ, e, Int.add_mul_ediv_left _ _ (by omega), Int.ediv_eq_zero_of_lt (by omega) (by omega), Int.zero_add]
      exact dg_mir hw fc (c / w) b1 i (by omega)
noncomputable def cntP (P : Nat → Prop) : Nat → Nat
  | 0 => 0
  | k + 1 => cntP P k + @ite Nat (P k) (Classical.propDecidable _) 1 0
theorem cntP_mono {P : Nat → Prop} : ∀ (m k : Nat), cntP P k ≤ cntP P (k + m)
  | 0, k => Nat.le_refl _
  | m + 1, k => Nat.le_trans (cntP_mono m k) (Nat.le_add_right _ _)
theorem cntP_front {P : Nat → Prop} : ∀ n, cntP P (n + 1) = @ite Nat (P 0) (Classical.propDecidable _) 1 0 + cntP (fun k => P (k + 1)) n
  | 0 => by simp [cntP]
  | n + 1 => by
    show cntP P (n + 1) + _ = _
    rw [cntP_front n]
    show _ = _ + (cntP (fun k => P (k + 1)) n + @ite Nat (P (n + 1)) (Classical.propDecidable _) 1 0)
    omega
theorem cntP_ext {P R : Nat → Prop} : ∀ n, (∀ k, k < n → (P k ↔ R k)) → cntP P n = cntP R n
  | 0, _ => rfl
  | n + 1, h => by
    show cntP P n + _ = cntP R n + _
    rw [cntP_ext n (fun k hk => h k (by omega)), show P n = R n from propext (h n (by omega))]
theorem cntP_rev {P : Nat → Prop} : ∀ n, cntP P n = cntP (fun k => P (n - 1 - k)) n
  | 0 => rfl
  | n + 1 => by
    rw [cntP_front]
    show _ = cntP (fun k => P (n + 1 - 1 - k)) n + @ite Nat (P (n + 1 - 1 - n)) (Classical.propDecidable _) 1 0
    rw [show n + 1 - 1 - n = 0 by omega, cntP_rev (P := fun k => P (k + 1)) n, Nat.add_comm]
    congr 1
    exact cntP_ext n (fun k hk => by rw [show n - 1 - k + 1 = n + 1 - 1 - k by omega])
theorem cntP_pair {P R : Nat → Prop} : ∀ n, (∀ k, k < n → ¬ (P k ∧ R k)) → cntP P n + cntP R n ≤ n
  | 0, _ => Nat.le_refl _
  | n + 1, h => by
    have ih := cntP_pair n (fun k hk => h k (by omega))
    have h1 := h n (by omega)
    show cntP P n + @ite Nat (P n) (Classical.propDecidable _) 1 0 + (cntP R n + @ite Nat (R n) (Classical.propDecidable _) 1 0) ≤ n + 1
    by_cases hp : P n
    · have hr : ¬ R n := fun z => h1 ⟨hp, z⟩
      rw [if_pos hp, if_neg hr]; omega
    · rw [if_neg hp]
      split <;> omega
theorem cntP_half {P : Nat → Prop} {n : Nat} (h : ∀ k, k < n → ¬ (P k ∧ P (n - 1 - k))) : 2 * cntP P n ≤ n := by
  have h1 := cntP_pair n h
  rw [← cntP_rev] at h1
  omega
/-- two kernel vectors that agree outside the pivots -/
theorem ker_uniq {M f h : Int → Int} {n : Int} {I : IE} (hP : PVs M n I) (hn : 0 ≤ n) (hf : KerF M n f) (hh : KerF M n h) (hag : ∀ j, 0 ≤ j ∧ j < n → j ≠ I 42 5 → j ≠ I 42 6 → f j = h j) : ∀ j, 0 ≤ j ∧ j < n → f j = h j := by
  have e0 : ∀ x : Int, (0 : Int) * 4 + x = x := fun x => by omega
  have e1 : ∀ x : Int, (1 : Int) * 4 + x = 4 + x := fun x => by omega
  rcases hP with ⟨-, -, b3, b4, -⟩ | ⟨⟨b1, b2, b3, b4, b5, b6, b7⟩, -⟩ | ⟨b1, b2, b3, b4, b5, b6, b7⟩
  · intro j hj
    exact hag j hj (by omega) (by omega)
  · have key : f (I 42 5) = h (I 42 5) := by
      have hu := dt_upd (M := M) (f := h) (h := f) (r := I 42 7) (p := I 42 5) n.toNat (fun j hj hj5 => hag j (by omega) hj5 (by omega)) (by omega)
      have hz : dt M f (I 42 7) n.toNat = 0 ∧ dt M h (I 42 7) n.toNat = 0 := by
        rcases (show I 42 7 = 0 ∨ I 42 7 = 1 by omega) with e | e
        · rw [e]; exact ⟨hf.1, hh.1⟩
        · rw [e]; exact ⟨hf.2, hh.2⟩
      rw [hz.1, hz.2, ← b6, Int.zero_add] at hu
      have := (Int.mul_eq_zero.mp hu.symm).resolve_left b7
      omega
    intro j hj
    by_cases hj5 : j = I 42 5
    · rw [hj5]; exact key
    · exact hag j hj hj5 (by omega)
  · have two : ∀ r, dt M f r n.toNat = dt M h r n.toNat + M (r * 4 + I 42 5) * (f (I 42 5) - h (I 42 5)) + M (r * 4 + I 42 6) * (f (I 42 6) - h (I 42 6)) := fun r => by
      have g1 := dt_upd (M := M) (f := h) (h := fun j => if j = I 42 5 then f j else h j) (r := r) (p := I 42 5) n.toNat (fun j _ hj5 => if_neg hj5) (by omega)
      have g2 := dt_upd (M := M) (f := fun j => if j = I 42 5 then f j else h j) (h := f) (r := r) (p := I 42 6) n.toNat (fun j hj hj6 => by
        by_cases e : j = I 42 5
        · simp only [e, if_true]
        · simp only [e, if_false]; exact hag j (by omega) e hj6) (by omega)
      simp only [if_true] at g1
      rw [g2, g1, if_neg (by omega)]
    have t0 := two 0
    have t1 := two 1
    rw [hf.1, hh.1, e0, e0] at t0
    rw [hf.2, hh.2, e1, e1] at t1
    unfold mnr at b6
    have z1 : I 42 8 * (f (I 42 5) - h (I 42 5)) = 0 := by rw [b6]; grind
    have z2 : I 42 8 * (f (I 42 6) - h (I 42 6)) = 0 := by rw [b6]; grind
    have w1 := (Int.mul_eq_zero.mp z1).resolve_left b7
    have w2 := (Int.mul_eq_zero.mp z2).resolve_left b7
    intro j hj
    by_cases hj5 : j = I 42 5
    · rw [hj5]; omega
    · by_cases hj6 : j = I 42 6
      · rw [hj6]; omega
      · exact hag j hj hj5 hj6
theorem dt_neg {M f : Int → Int} {r : Int} : ∀ k, dt M (fun j => -f j) r k = -dt M f r k
  | 0 => rfl
  | k + 1 => by simp only [dt]; rw [dt_neg k, Int.mul_neg]; omega
theorem KerF.neg {M f : Int → Int} {n : Int} (h : KerF M n f) : KerF M n (fun j => -f j) := by
  unfold KerF at h ⊢
  rw [dt_neg, dt_neg, h.1, h.2]
  exact ⟨rfl, rfl⟩
theorem KerF.ext {M f g : Int → Int} {n : Int} (h : KerF M n f) (e : ∀ j, 0 ≤ j ∧ j < n → f j = g j) : KerF M n g := by
  unfold KerF at h ⊢
  rw [← dt_ext n.toNat (fun j hj => e j (by omega)), ← dt_ext n.toNat (fun j hj => e j (by omega))]
  exact h
theorem lead_ext {f g : Int → Int} {n : Int} (h : lead f n) (e : ∀ j, 0 ≤ j ∧ j < n → f j = g j) : lead g n := by
  obtain ⟨k, h1, h2, h3, h4⟩ := h
  exact ⟨k, h1, h2, fun i hi => by rw [← e i (by omega)]; exact h3 i hi, by rw [← e k (by omega)]; exact h4⟩
theorem lead_neg {f : Int → Int} {n : Int} (h : lead f n) (g : lead (fun j => -f j) n) : False := by
  obtain ⟨k, h1, h2, h3, h4⟩ := h
  obtain ⟨q, g1, g2, g3, g4⟩ := g
  simp only at g3 g4
  rcases Int.lt_trichotomy k q with e | e | e
  · have := g3 k ⟨h1, e⟩; omega
  · subst e; omega
  · have := h3 q ⟨g1, e⟩; omega
/-- the vectors that are looked at -/
def Cnd (M : Int → Int) (n b : Int) (z : Int → Int) : Prop := KerF M n z ∧ (∀ j, 0 ≤ j ∧ j < n → -b ≤ z j ∧ z j ≤ b) ∧ lead z n ∧ ∀ j, n ≤ j ∧ j < 4 → z j = 0
theorem kc_inj {f h : Int → Int} (hf : ∀ j, 0 ≤ j ∧ j < 4 → -9 ≤ f j ∧ f j ≤ 9) (hh : ∀ j, 0 ≤ j ∧ j < 4 → -9 ≤ h j ∧ h j ≤ 9) (e : kc f = kc h) : ∀ j, 0 ≤ j ∧ j < 4 → f j = h j := by
  intro j hj
  have h1 := dec_at hf (k := j.toNat) (by omega)
  have h2 := dec_at hh (k := j.toNat) (by omega)
  rw [e, h2, show ((j.toNat : Nat) : Int) = j by omega] at h1
  exact h1.symm
theorem Cnd.b9 {M : Int → Int} {n b : Int} {z : Int → Int} (h : Cnd M n b z) (hb : b ≤ 9) : ∀ j, 0 ≤ j ∧ j < 4 → -9 ≤ z j ∧ z j ≤ 9 := fun j hj => by
  by_cases hjn : j < n
  · have := h.2.1 j (by omega); omega
  · have := h.2.2.2 j (by omega); omega
theorem kc_ext {f h : Int → Int} (e : ∀ j, 0 ≤ j ∧ j < 4 → f j = h j) : kc f = kc h := by
  have e0 := e 0 (by decide); have e1 := e 1 (by decide); have e2 := e 2 (by decide); have e3 := e 3 (by decide)
  show (0 + ab (f 0) + ab (f 1) + ab (f 2) + ab (f 3)) * 1048576 + ((((0 * 32 + (9 - f 0)) * 32 + (9 - f 1)) * 32 + (9 - f 2)) * 32 + (9 - f 3)) = (0 + ab (h 0) + ab (h 1) + ab (h 2) + ab (h 3)) * 1048576 + ((((0 * 32 + (9 - h 0)) * 32 + (9 - h 1)) * 32 + (9 - h 2)) * 32 + (9 - h 3))
  rw [e0, e1, e2, e3]
/-- the widths and the number of codes -/
theorem Free.fc {g : Int → Int} {fc : Nat} {n : Int} {M : Int → Int} {I : IE} (hP : PVs M n I) (hn : 0 ≤ n ∧ n ≤ 4) (hf : Free g fc n (I 42 5) (I 42 6)) (hfn : (fc : Int) ≤ n) : 1 ≤ I 42 4 ∧ I 42 4 ≤ 9 ∧ (2 * I 42 4 + 1) ^ fc ≤ 361 := by
  have g1 : ∀ i : Int, 0 ≤ i → i < fc → 0 ≤ g i ∧ g i < n ∧ g i ≠ I 42 5 ∧ g i ≠ I 42 6 := fun i h1 h2 => hf.1 i ⟨h1, h2⟩
  have g2 : ∀ i j : Int, 0 ≤ i → i < j → j < fc → g i < g j := fun i j h1 h2 h3 => hf.2.1 i j ⟨h1, h2, h3⟩
  rcases hP with ⟨-, b2, b3, b4, -⟩ | ⟨⟨b1, b2, b3, b4, b5, b6, b7⟩, -⟩ | ⟨b1, b2, b3, b4, b5, b6, b7⟩
  · rw [b2]
    refine ⟨by decide, by decide, ?_⟩
    rcases (show fc = 0 ∨ fc = 1 ∨ fc = 2 ∨ fc = 3 ∨ fc = 4 by omega) with rfl | rfl | rfl | rfl | rfl <;> decide
  · rw [b2]
    refine ⟨by decide, by decide, ?_⟩
    rcases (show fc = 0 ∨ fc = 1 ∨ fc = 2 ∨ fc = 3 ∨ fc = 4 by omega) with rfl | rfl | rfl | rfl | rfl
    · decide
    · decide
    · decide
    · decide
    · have a0 := g1 0 (by decide) (by decide); have a1 := g1 1 (by decide) (by decide); have a2 := g1 2 (by decide) (by decide); have a3 := g1 3 (by decide) (by decide)
      have c0 := g2 0 1 (by decide) (by decide) (by decide); have c1 := g2 1 2 (by decide) (by decide) (by decide); have c2 := g2 2 3 (by decide) (by decide) (by decide)
      omega
  · rw [b2]
    refine ⟨by decide, by decide, ?_⟩
    rcases (show fc = 0 ∨ fc = 1 ∨ fc = 2 ∨ 3 ≤ fc by omega) with rfl | rfl | rfl | h3
    · decide
    · decide
    · decide
    · have a0 := g1 0 (by decide) (by omega); have a1 := g1 1 (by decide) (by omega); have a2 := g1 2 (by decide) (by omega)
      have c0 := g2 0 1 (by decide) (by decide) (by omega); have c1 := g2 1 2 (by decide) (by decide) (by omega)
      omega
/-- the digits of a vector are a code's -/
def Dig (g : Int → Int) (fc : Nat) (w b : Int) (c : Int) (z : Int → Int) : Prop := ∀ i : Nat, i < fc → z (g i) = rst w c i % w - b
/-- the codes that give a vector -/
def Gd (M : Int → Int) (g : Int → Int) (fc : Nat) (n w b : Int) (c : Nat) : Prop := ∃ z, Dig g fc w b c z ∧ Cnd M n b z
theorem dig_ag {g : Int → Int} {fc : Nat} {n p q w b c : Int} {z h : Int → Int} (hf : Free g fc n p q) (hz : Dig g fc w b c z) (hh : Dig g fc w b c h) : ∀ j, 0 ≤ j ∧ j < n → j ≠ p → j ≠ q → z j = h j := by
  intro j hj hp hq
  obtain ⟨i, h1, h2, h3⟩ := hf.2.2 j hj hp hq
  have a := hz i.toNat (by omega)
  have b' := hh i.toNat (by omega)
  rw [show ((i.toNat : Nat) : Int) = i by omega, h3] at a b'
  omega
theorem gd_half {M g : Int → Int} {fc : Nat} {n : Int} {I : IE} (hP : PVs M n I) (hn : 0 ≤ n ∧ n ≤ 4) (hf : Free g fc n (I 42 5) (I 42 6)) (hfn : (fc : Int) ≤ n) :
    2 * cntP (Gd M g fc n (2 * I 42 4 + 1) (I 42 4)) ((2 * I 42 4 + 1) ^ fc).toNat ≤ ((2 * I 42 4 + 1) ^ fc).toNat := by
  obtain ⟨hb1, hb2, -⟩ := hf.fc hP hn hfn
  have hpos : 0 < (2 * I 42 4 + 1) ^ fc := Int.pow_pos (by omega)
  refine cntP_half (fun k hk => fun ⟨⟨z, h1, h2⟩, ⟨y, g1, g2⟩⟩ => ?_)
  have hm := dg_mir (w := 2 * I 42 4 + 1) (by omega) fc k ⟨by omega, by omega⟩
  have ek : ((((2 * I 42 4 + 1) ^ fc).toNat - 1 - k : Nat) : Int) = (2 * I 42 4 + 1) ^ fc - 1 - k := by omega
  have hd : Dig g fc (2 * I 42 4 + 1) (I 42 4) ((((2 * I 42 4 + 1) ^ fc).toNat - 1 - k : Nat) : Int) (fun j => -z j) := fun i hi => by
    rw [ek, hm i hi]
    simp only
    rw [h1 i hi]
    omega
  have ha := dig_ag hf g1 hd
  have hu := ker_uniq hP hn.1 g2.1 h2.1.neg ha
  exact lead_neg h2.2.2.1 (lead_ext g2.2.2.1 hu)
theorem gd_count {M g : Int → Int} {fc : Nat} {n : Int} {I : IE} (hP : PVs M n I) (hn : 0 ≤ n ∧ n ≤ 4) (hf : Free g fc n (I 42 5) (I 42 6)) (hfn : (fc : Int) ≤ n) {c : Nat} (hc : (c : Int) ≤ (2 * I 42 4 + 1) ^ fc) :
    cntP (Gd M g fc n (2 * I 42 4 + 1) (I 42 4)) c ≤ 180 := by
  obtain ⟨hb1, hb2, hb3⟩ := hf.fc hP hn hfn
  have h1 := gd_half hP hn hf hfn
  have h2 := cntP_mono (P := Gd M g fc n (2 * I 42 4 + 1) (I 42 4)) (((2 * I 42 4 + 1) ^ fc).toNat - c) c
  rw [show c + (((2 * I 42 4 + 1) ^ fc).toNat - c) = ((2 * I 42 4 + 1) ^ fc).toNat by omega] at h2
  omega
/-- the candidates of the codes below c, sorted -/
def CInv (M g : Int → Int) (fc : Nat) (n w b : Int) (c : Nat) (m : Int) (f : Int → Int) : Prop := m = cntP (Gd M g fc n w b) c ∧ (∀ i j, 0 ≤ i ∧ i < j ∧ j < m → f i < f j) ∧
  ∀ x, (∃ i, 0 ≤ i ∧ i < m ∧ f i = x) ↔ ∃ (c' : Nat) (z : Int → Int), c' < c ∧ Dig g fc w b c' z ∧ Cnd M n b z ∧ x = kc z
theorem CInv.skip {M g : Int → Int} {fc : Nat} {n w b : Int} {c : Nat} {m : Int} {f : Int → Int} (h : CInv M g fc n w b c m f) (hg : ¬ Gd M g fc n w b c) : CInv M g fc n w b (c + 1) m f := by
  obtain ⟨h1, h2, h3⟩ := h
  refine ⟨?_, h2, fun x => ?_⟩
  · show m = ((cntP (Gd M g fc n w b) c + @ite Nat (Gd M g fc n w b c) (Classical.propDecidable _) 1 0 : Nat) : Int)
    rw [if_neg hg]; omega
  · rw [h3 x]
    constructor
    · rintro ⟨c', z, g1, g2⟩; exact ⟨c', z, by omega, g2⟩
    · rintro ⟨c', z, g1, g2, g3, g4⟩
      by_cases e : c' = c
      · subst e; exact absurd ⟨z, g2, g3⟩ hg
      · exact ⟨c', z, by omega, g2, g3, g4⟩
theorem CInv.put {M g : Int → Int} {fc : Nat} {n w b p q : Int} {c : Nat} {m : Int} {f f' : Int → Int} {z : Int → Int} {r : Int} (h : CInv M g fc n w b c m f) (hw : 2 ≤ w) (hb : b ≤ 9) (hn : n ≤ 4) (hf : Free g fc n p q) (hc : (c : Int) < w ^ fc) (hz : Dig g fc w b c z) (hC : Cnd M n b z) (hi : Ins f f' m (kc z) r)
    (hun : ∀ y, Dig g fc w b c y → Cnd M n b y → ∀ j, 0 ≤ j ∧ j < 4 → y j = z j) : CInv M g fc n w b (c + 1) (m + 1) f' := by
  obtain ⟨h1, h2, h3⟩ := h
  obtain ⟨i1, i2, i3, i4, i5⟩ := hi
  have new : ∀ j, 0 ≤ j ∧ j < m → f j ≠ kc z := fun j hj e => by
    obtain ⟨c', y, g1, g2, g3, g4⟩ := (h3 (kc z)).mp ⟨j, hj.1, hj.2, e⟩
    have ey := kc_inj (hC.b9 hb) (g3.b9 hb) g4
    have := dg_inj hw fc c c' ⟨by omega, hc⟩ ⟨by omega, by omega⟩ (fun i hi => by
      have a1 := hz i hi
      have a2 := g2 i hi
      have := hf.1 i (by omega)
      have a3 := ey (g i) (by omega)
      omega)
    omega
  refine ⟨?_, fun i j hij => ?_, fun x => ?_⟩
  · show m + 1 = ((cntP (Gd M g fc n w b) c + @ite Nat (Gd M g fc n w b c) (Classical.propDecidable _) 1 0 : Nat) : Int)
    rw [if_pos ⟨z, hz, hC⟩]; omega
  · by_cases hj1 : j < r
    · rw [(i3 i (by omega)).1, (i3 j (by omega)).1]; exact h2 i j (by omega)
    · by_cases hj2 : j = r
      · rw [hj2, i4, (i3 i (by omega)).1]
        have a := (i3 i (by omega)).2
        have b' := new i (by omega)
        omega
      · have ej := (i5 (j - 1) (by omega)).1
        rw [show j - 1 + 1 = j by omega] at ej
        by_cases hi1 : i < r
        · rw [(i3 i (by omega)).1, ej]; exact h2 i (j - 1) (by omega)
        · by_cases hi2 : i = r
          · rw [hi2, i4, ej]; exact (i5 (j - 1) (by omega)).2
          · have ei := (i5 (i - 1) (by omega)).1
            rw [show i - 1 + 1 = i by omega] at ei
            rw [ei, ej]; exact h2 (i - 1) (j - 1) (by omega)
  · constructor
    · rintro ⟨i, g1, g2, g3⟩
      by_cases hi1 : i < r
      · obtain ⟨c', y, k1, k2⟩ := (h3 x).mp ⟨i, g1, by omega, by rw [← g3]; exact (i3 i ⟨g1, hi1⟩).1.symm⟩
        exact ⟨c', y, by omega, k2⟩
      · by_cases hi2 : i = r
        · exact ⟨c, z, by omega, hz, hC, by rw [← g3, hi2, i4]⟩
        · have ei := (i5 (i - 1) (by omega)).1
          rw [show i - 1 + 1 = i by omega] at ei
          obtain ⟨c', y, k1, k2⟩ := (h3 x).mp ⟨i - 1, by omega, by omega, by rw [← g3]; exact ei.symm⟩
          exact ⟨c', y, by omega, k2⟩
    · rintro ⟨c', y, g1, g2, g3, g4⟩
      by_cases e : c' = c
      · subst e
        exact ⟨r, i1, by omega, by rw [i4, g4]; exact kc_ext (fun j hj => (hun y g2 g3 j hj).symm)⟩
      · obtain ⟨i, k1, k2, k3⟩ := (h3 x).mpr ⟨c', y, by omega, g2, g3, g4⟩
        by_cases hi1 : i < r
        · exact ⟨i, k1, by omega, by rw [(i3 i ⟨k1, hi1⟩).1]; exact k3⟩
        · exact ⟨i + 1, by omega, by omega, by rw [(i5 i (by omega)).1]; exact k3⟩
theorem ipow_le {b : Int} (hb : 1 ≤ b) (m : Nat) : ∀ k : Nat, b ^ m ≤ b ^ (m + k)
  | 0 => Int.le_refl _
  | k + 1 => by
    have ih := ipow_le hb m k
    have h0 : 0 ≤ b ^ (m + k) := Int.pow_nonneg (by omega)
    have h1 := Int.mul_le_mul_of_nonneg_left hb h0
    rw [Int.mul_one] at h1
    rw [← Nat.add_assoc, Int.pow_succ]
    omega
theorem upI_upI {I : IE} {a k : Nat} {x y : Int} : upI (upI I a k x) a k y = upI I a k y := by
  funext b j
  simp only [upI]
  split <;> rfl
theorem l2_cc1 {d n0 : Nat} {Q : PQ} {I : IE} {F : FE} {fc : Nat} (h9 : I 42 9 = (fc : Int)) (hfc : fc ≤ 4) (hb : 1 ≤ I 42 4 ∧ I 42 4 ≤ 9 ∧ (2 * I 42 4 + 1) ^ fc ≤ 361)
    (K : ∀ x, WS m2_collectCandidates d 0 0 n0 Q 0 0 33 [lr 42, lr 1, li (2 * I 42 4 + 1), li ((2 * I 42 4 + 1) ^ fc), x] [] shX I F) :
    ∀ (m k : Nat), k + m = fc → WS m2_collectCandidates d 0 0 n0 Q 0 0 14 [lr 42, lr 1, li (2 * I 42 4 + 1), li ((2 * I 42 4 + 1) ^ k), li k] [] shX I F := by
  intro m
  induction m with
  | zero =>
    intro k hk
    obtain rfl : k = fc := by omega
    refine w_iload i2_collectCandidates_14 rfl ?_
    refine w_aload i2_collectCandidates_16 rfl ?_
    refine w_get i2_collectCandidates_17 rfl rfl ?_
    refine w_icmpge i2_collectCandidates_20 (fun h20 => ?_) (fun h_ => absurd h_ (by omega))
    exact K _
  | succ m ih =>
    intro k hk
    have hp1 : 0 < (2 * I 42 4 + 1) ^ (k + 1) := Int.pow_pos (by omega)
    have hp2 : (2 * I 42 4 + 1) ^ (k + 1) ≤ (2 * I 42 4 + 1) ^ fc := by have := ipow_le (b := 2 * I 42 4 + 1) (by omega) (k + 1) (fc - (k + 1)); rw [show k + 1 + (fc - (k + 1)) = fc by omega] at this; exact this
    have e : (2 * I 42 4 + 1) ^ k * (2 * I 42 4 + 1) = (2 * I 42 4 + 1) ^ (k + 1) := (Int.pow_succ _ _).symm
    refine w_iload i2_collectCandidates_14 rfl ?_
    refine w_aload i2_collectCandidates_16 rfl ?_
    refine w_get i2_collectCandidates_17 rfl rfl ?_
    refine w_icmpge i2_collectCandidates_20 (fun h_ => absurd h_ (by omega)) (fun h20 => ?_)
    refine w_iload i2_collectCandidates_23 rfl ?_
    refine w_iload i2_collectCandidates_24 rfl ?_
    refine w_imul i2_collectCandidates_25 ((by rw [e]; constructor <;> omega)) ?_
    rw [e]
    refine w_is3 i2_collectCandidates_26 ?_
    refine w_ii4 i2_collectCandidates_27 (by omega) ?_
    refine w_goto i2_collectCandidates_30 ?_
    exact ih (k + 1) (by omega)
theorem l2_cc2 {d n0 : Nat} {Q : PQ} {I : IE} {F : FE} {fc : Nat} (hd : 3 ≤ d) (hn : 0 ≤ I 1 1 ∧ I 1 1 ≤ 4) (h3 : I 42 3 = I 1 1) (h9 : I 42 9 = (fc : Int)) (hM : ∀ j, 0 ≤ F 2 j ∧ F 2 j ≤ 3) (hP : PVs (F 2) (I 1 1) I) (hf : Free (F 44) fc (I 1 1) (I 42 5) (I 42 6)) (hfn : (fc : Int) ≤ I 1 1)
    (K : ∀ x m F', (∀ a, a ≠ 45 → a ≠ 46 → F' a = F a) → CInv (F 2) (F 44) fc (I 1 1) (2 * I 42 4 + 1) (I 42 4) ((2 * I 42 4 + 1) ^ fc).toNat m (F' 46) → WS m2_collectCandidates d 0 0 n0 Q 0 0 90 [lr 42, lr 1, li (2 * I 42 4 + 1), li ((2 * I 42 4 + 1) ^ fc), x] [] shX (upI I 42 13 m) F') :
    ∀ (m c : Nat) (k : Int) (F' : FE), (c + m : Int) = (2 * I 42 4 + 1) ^ fc → (∀ a, a ≠ 45 → a ≠ 46 → F' a = F a) → CInv (F 2) (F 44) fc (I 1 1) (2 * I 42 4 + 1) (I 42 4) c k (F' 46) → WS m2_collectCandidates d 0 0 n0 Q 0 0 41 [lr 42, lr 1, li (2 * I 42 4 + 1), li ((2 * I 42 4 + 1) ^ fc), li c] [] shX (upI I 42 13 k) F' := by
  obtain ⟨hb1, hb2, hb3⟩ := hf.fc hP hn hfn
  have u : ∀ (k : Int) (a j : Nat), (a ≠ 42 ∨ j ≠ 13) → upI I 42 13 k a j = I a j := fun k a j h => by simp only [upI]; rw [if_neg (by omega)]
  intro m
  induction m with
  | zero =>
    intro c k F' hc hF hI
    have ec : (c : Int) = (2 * I 42 4 + 1) ^ fc := by omega
    refine w_iload i2_collectCandidates_41 rfl ?_
    refine w_iload i2_collectCandidates_43 rfl ?_
    refine w_icmpge i2_collectCandidates_44 (fun h44 => ?_) (fun h_ => absurd h_ (by omega))
    refine K _ k F' hF ?_
    rw [← ec]
    exact hI
  | succ m ih =>
    intro c k F' hc hF hI
    have e2 : F' 2 = F 2 := hF 2 (by decide) (by decide)
    have e44 : F' 44 = F 44 := hF 44 (by decide) (by decide)
    have hcnt := gd_count hP hn hf hfn (c := c) (by omega)
    have u5 := u k 42 5 (by omega); have u6 := u k 42 6 (by omega); have u4 := u k 42 4 (by omega); have u3 := u k 42 3 (by omega); have u9 := u k 42 9 (by omega); have u11 := u k 1 1 (by omega)
    have hPk : PVs (F 2) (I 1 1) (upI I 42 13 k) := by
      unfold PVs PV0 PV1 PV2 at hP ⊢
      rw [u5, u6, u4, u k 42 1 (by omega), u k 42 7 (by omega), u k 42 8 (by omega)]
      exact hP
    refine w_iload i2_collectCandidates_41 rfl ?_
    refine w_iload i2_collectCandidates_43 rfl ?_
    refine w_icmpge i2_collectCandidates_44 (fun h_ => absurd h_ (by omega)) (fun _ => ?_)
    refine w_aload i2_collectCandidates_47 rfl ?_
    refine w_iload i2_collectCandidates_48 rfl ?_
    refine w_iload i2_collectCandidates_50 rfl ?_
    refine w_cVU i2_collectCandidates_51 f2_setFreeColumns v2_setFreeColumns (s2_setFreeColumns (fc := fc) (n := I 1 1) (p := I 42 5) (q := I 42 6) (by rw [e44]; exact hf) hn (by omega) (by rw [u9]; exact h9) (by omega) (by rw [u4]; omega) (by omega)) rfl rfl (by decide) rfl rfl (Nat.le_of_ble_eq_true rfl) (by omega) (fun I1 F1 hq1 => ?_)
    obtain ⟨rfl, p1, p2, p3⟩ := hq1
    rw [e44] at p1 p2
    rw [u4] at p1
    have e2' : F1 2 = F 2 := by rw [p3 2 (by decide)]; exact e2
    have hF1 : ∀ a, a ≠ 45 → a ≠ 46 → F1 a = F a := fun a h1 h2 => by rw [p3 a h1]; exact hF a h1 h2
    have p46 : F1 46 = F' 46 := p3 46 (by decide)
    have hv9 : ∀ j, 0 ≤ j ∧ j < 4 → -9 ≤ F1 45 j ∧ F1 45 j ≤ 9 := fun j hj => by
      by_cases h : ∃ i : Int, 0 ≤ i ∧ i < fc ∧ F 44 i = j
      · obtain ⟨i, i1, i2, i3⟩ := h
        have := p1 i.toNat (by omega)
        rw [show ((i.toNat : Nat) : Int) = i by omega, i3] at this
        have m1 := Int.emod_nonneg (rst (2 * I 42 4 + 1) c i.toNat) (show 2 * I 42 4 + 1 ≠ 0 by omega)
        have m2 := Int.emod_lt_of_pos (rst (2 * I 42 4 + 1) c i.toNat) (show 0 < 2 * I 42 4 + 1 by omega)
        omega
      · have := p2 j hj (fun i hi e => h ⟨i, hi.1, hi.2, e⟩)
        omega
    have hpz : ∀ j, 0 ≤ j ∧ j < 4 → (j = upI I 42 13 k 42 5 ∨ j = upI I 42 13 k 42 6) → F1 45 j = 0 := fun j hj h => by
      rw [u5, u6] at h
      refine p2 j hj (fun i hi e => ?_)
      have := hf.1 i hi
      omega
    refine w_aload i2_collectCandidates_54 rfl ?_
    refine w_aload i2_collectCandidates_55 rfl ?_
    refine w_cVB i2_collectCandidates_56 f2_solvePivots v2_solvePivots (s2_solvePivots (by omega) (by rw [u11]; exact hn) (by rw [e2']; exact hM) hv9 (by rw [e2', u11]; exact hPk) hpz) rfl rfl (by decide) rfl rfl (Nat.le_of_ble_eq_true rfl) (by omega) (fun v I2 F2 hq2 => ?_)
    obtain ⟨rfl, q1, q2, q3, q4⟩ := hq2
    rw [u5, u6] at q2
    rw [e2', u11] at q4
    rw [u5, u6] at q4
    have hF2 : ∀ a, a ≠ 45 → a ≠ 46 → F2 a = F a := fun a h1 h2 => by rw [q1 a h1]; exact hF1 a h1 h2
    have q46 : F2 46 = F' 46 := by rw [q1 46 (by decide)]; exact p46
    have hDz : Dig (F 44) fc (2 * I 42 4 + 1) (I 42 4) c (F2 45) := fun i hi => by
      have := hf.1 i (by omega)
      rw [q2 _ this.2.2.1 this.2.2.2]
      exact p1 i hi
    have hz4 : ∀ j, I 1 1 ≤ j ∧ j < 4 → F2 45 j = 0 := fun j hj => by
      have h5 : j ≠ I 42 5 ∧ j ≠ I 42 6 := by
        rcases hP with ⟨-, -, b3, b4, -⟩ | ⟨⟨b1, b2, b3, b4, b5, -⟩, -⟩ | ⟨b1, b2, b3, b4, b5, -⟩ <;> constructor <;> omega
      rw [q2 j h5.1 h5.2]
      refine p2 j (by omega) (fun i hi e => ?_)
      have := hf.1 i hi
      omega
    have hI2 : CInv (F 2) (F 44) fc (I 1 1) (2 * I 42 4 + 1) (I 42 4) c k (F2 46) := by rw [q46]; exact hI
    have hun : ∀ y, Dig (F 44) fc (2 * I 42 4 + 1) (I 42 4) c y → KerF (F 2) (I 1 1) (F2 45) → Cnd (F 2) (I 1 1) (I 42 4) y → ∀ j, 0 ≤ j ∧ j < I 1 1 → y j = F2 45 j := fun y hy hk hC => ker_uniq hP hn.1 hC.1 hk (dig_ag hf hy hDz)
    have next : ∀ (k' : Int) (F3 : FE), (∀ a, a ≠ 45 → a ≠ 46 → F3 a = F a) → CInv (F 2) (F 44) fc (I 1 1) (2 * I 42 4 + 1) (I 42 4) (c + 1) k' (F3 46) → WS m2_collectCandidates d 0 0 n0 Q 0 0 84 [lr 42, lr 1, li (2 * I 42 4 + 1), li ((2 * I 42 4 + 1) ^ fc), li c] [] shX (upI I 42 13 k') F3 := by
      intro k' F3 h1 h2
      refine w_ii4 i2_collectCandidates_84 (by omega) ?_
      refine w_goto i2_collectCandidates_87 ?_
      exact ih (c + 1) k' F3 (by omega) h1 h2
    refine w_ifeq i2_collectCandidates_59 (fun h59 => ?_) (fun h59 => ?_)
    · first
      | (have h59' : v = 0 := h59
         refine next k F2 hF2 (hI2.skip (fun ⟨y, hy, hC⟩ => ?_))
         rcases q4 with h | h
         · exact absurd h.1 (by omega)
         · exact h.2 y (fun j hj h5 h6 => by rw [← q2 j h5 h6]; exact dig_ag hf hy hDz j hj h5 h6) hC.1)
      | (have h66' : v = 0 := h66
         refine next k F2 hF2 (hI2.skip (fun ⟨y, hy, hC⟩ => ?_))
         have hk1 : KerF (F 2) (I 1 1) (F2 45) := by
           rcases q4 with h | h
           · exact h.2
           · exact absurd h.1 h59
         have e := hun y hy hk1 hC
         rcases hw with h | h
         · exact absurd h.1 (by omega)
         · exact h.2 (fun i hi => by rw [← e i hi]; exact hC.2.1 i hi))
      | (have h73' : v = 0 := h73
         refine next k F2 hF2 (hI2.skip (fun ⟨y, hy, hC⟩ => ?_))
         have hk1 : KerF (F 2) (I 1 1) (F2 45) := by
           rcases q4 with h | h
           · exact h.2
           · exact absurd h.1 h59
         have e := hun y hy hk1 hC
         rcases hv with h | h
         · exact absurd h.1 (by omega)
         · exact h.2 (lead_ext hC.2.2.1 e))
      | (refine next (k + 1) _ (fun a h1 h2 => by rw [hfr a h2]; exact hF2 a h1 h2) (CInv.put hI2 (by omega) hb2 hn.2 hf (by omega) hDz hC hIns (fun y hy hCy j hj => ?_))
         by_cases hjn : j < I 1 1
         · exact hun y hy hk1 hCy j ⟨hj.1, hjn⟩
         · rw [hz4 j (by omega), hCy.2.2.2 j (by omega)])
    · refine w_aload i2_collectCandidates_62 rfl ?_
      refine w_cVP i2_collectCandidates_63 f2_isWithinBound v2_isWithinBound (s2_isWithinBound (by omega) (by rw [u3, h3]; exact hn) q3) rfl rfl (by decide) rfl rfl (Nat.le_of_ble_eq_true rfl) (by omega) (fun v hv => ?_)
      rw [u3, h3, u4] at hv
      have hw := hv
      refine w_ifeq i2_collectCandidates_66 (fun h66 => ?_) (fun h66 => ?_)
      · first
        | (have h59' : v = 0 := h59
           refine next k F2 hF2 (hI2.skip (fun ⟨y, hy, hC⟩ => ?_))
           rcases q4 with h | h
           · exact absurd h.1 (by omega)
           · exact h.2 y (fun j hj h5 h6 => by rw [← q2 j h5 h6]; exact dig_ag hf hy hDz j hj h5 h6) hC.1)
        | (have h66' : v = 0 := h66
           refine next k F2 hF2 (hI2.skip (fun ⟨y, hy, hC⟩ => ?_))
           have hk1 : KerF (F 2) (I 1 1) (F2 45) := by
             rcases q4 with h | h
             · exact h.2
             · exact absurd h.1 h59
           have e := hun y hy hk1 hC
           rcases hw with h | h
           · exact absurd h.1 (by omega)
           · exact h.2 (fun i hi => by rw [← e i hi]; exact hC.2.1 i hi))
        | (have h73' : v = 0 := h73
           refine next k F2 hF2 (hI2.skip (fun ⟨y, hy, hC⟩ => ?_))
           have hk1 : KerF (F 2) (I 1 1) (F2 45) := by
             rcases q4 with h | h
             · exact h.2
             · exact absurd h.1 h59
           have e := hun y hy hk1 hC
           rcases hv with h | h
           · exact absurd h.1 (by omega)
           · exact h.2 (lead_ext hC.2.2.1 e))
        | (refine next (k + 1) _ (fun a h1 h2 => by rw [hfr a h2]; exact hF2 a h1 h2) (CInv.put hI2 (by omega) hb2 hn.2 hf (by omega) hDz hC hIns (fun y hy hCy j hj => ?_))
           by_cases hjn : j < I 1 1
           · exact hun y hy hk1 hCy j ⟨hj.1, hjn⟩
           · rw [hz4 j (by omega), hCy.2.2.2 j (by omega)])
      · refine w_aload i2_collectCandidates_69 rfl ?_
        refine w_cVP i2_collectCandidates_70 f2_leads v2_leads (s2_leads (by rw [u3, h3]; exact hn)) rfl rfl (by decide) rfl rfl (Nat.le_of_ble_eq_true rfl) (by omega) (fun v hv => ?_)
        rw [u3, h3] at hv
        refine w_ifeq i2_collectCandidates_73 (fun h73 => ?_) (fun h73 => ?_)
        · first
          | (have h59' : v = 0 := h59
             refine next k F2 hF2 (hI2.skip (fun ⟨y, hy, hC⟩ => ?_))
             rcases q4 with h | h
             · exact absurd h.1 (by omega)
             · exact h.2 y (fun j hj h5 h6 => by rw [← q2 j h5 h6]; exact dig_ag hf hy hDz j hj h5 h6) hC.1)
          | (have h66' : v = 0 := h66
             refine next k F2 hF2 (hI2.skip (fun ⟨y, hy, hC⟩ => ?_))
             have hk1 : KerF (F 2) (I 1 1) (F2 45) := by
               rcases q4 with h | h
               · exact h.2
               · exact absurd h.1 h59
             have e := hun y hy hk1 hC
             rcases hw with h | h
             · exact absurd h.1 (by omega)
             · exact h.2 (fun i hi => by rw [← e i hi]; exact hC.2.1 i hi))
          | (have h73' : v = 0 := h73
             refine next k F2 hF2 (hI2.skip (fun ⟨y, hy, hC⟩ => ?_))
             have hk1 : KerF (F 2) (I 1 1) (F2 45) := by
               rcases q4 with h | h
               · exact h.2
               · exact absurd h.1 h59
             have e := hun y hy hk1 hC
             rcases hv with h | h
             · exact absurd h.1 (by omega)
             · exact h.2 (lead_ext hC.2.2.1 e))
          | (refine next (k + 1) _ (fun a h1 h2 => by rw [hfr a h2]; exact hF2 a h1 h2) (CInv.put hI2 (by omega) hb2 hn.2 hf (by omega) hDz hC hIns (fun y hy hCy j hj => ?_))
             by_cases hjn : j < I 1 1
             · exact hun y hy hk1 hCy j ⟨hj.1, hjn⟩
             · rw [hz4 j (by omega), hCy.2.2.2 j (by omega)])
        · have hk1 : KerF (F 2) (I 1 1) (F2 45) := by
            rcases q4 with h | h
            · exact h.2
            · exact absurd h.1 h59
          have hC : Cnd (F 2) (I 1 1) (I 42 4) (F2 45) := ⟨hk1, by
            rcases hw with h | h
            · exact h.2
            · exact absurd h.1 h66, by
            rcases hv with h | h
            · exact h.2
            · exact absurd h.1 h73, hz4⟩
          have hb9 := hC.b9 hb2
          have hk13 : upI I 42 13 k 42 13 = k := by simp [upI]
          have srt : ∀ i j, 0 ≤ i ∧ i ≤ j ∧ j < k → F2 46 i ≤ F2 46 j := fun i j hij => by
            by_cases e : i = j
            · subst e; exact Int.le_refl _
            · have := hI2.2.1 i j (by omega); omega
          refine w_aload i2_collectCandidates_76 rfl ?_
          refine w_aload i2_collectCandidates_77 rfl ?_
          refine w_cVR i2_collectCandidates_78 f2_encode v2_encode (s2_encode (by omega) hb9) rfl rfl (by decide) rfl rfl (Nat.le_of_ble_eq_true rfl) (by omega) ?_
          refine w_cVU i2_collectCandidates_81 f2_insertCandidate v2_insertCandidate (s2_insertCandidate (by rw [hk13]; have := hI2.1; omega) (by rw [hk13]; exact srt)) rfl rfl (by decide) rfl rfl (Nat.le_of_ble_eq_true rfl) (by omega) (fun I' F' hq => ?_)
          obtain ⟨rfl, ⟨r, hIns⟩, hfr⟩ := hq
          rw [hk13, upI_upI]
          rw [hk13] at hIns
          first
          | (have h59' : v = 0 := h59
             refine next k F2 hF2 (hI2.skip (fun ⟨y, hy, hC⟩ => ?_))
             rcases q4 with h | h
             · exact absurd h.1 (by omega)
             · exact h.2 y (fun j hj h5 h6 => by rw [← q2 j h5 h6]; exact dig_ag hf hy hDz j hj h5 h6) hC.1)
          | (have h66' : v = 0 := h66
             refine next k F2 hF2 (hI2.skip (fun ⟨y, hy, hC⟩ => ?_))
             have hk1 : KerF (F 2) (I 1 1) (F2 45) := by
               rcases q4 with h | h
               · exact h.2
               · exact absurd h.1 h59
             have e := hun y hy hk1 hC
             rcases hw with h | h
             · exact absurd h.1 (by omega)
             · exact h.2 (fun i hi => by rw [← e i hi]; exact hC.2.1 i hi))
          | (have h73' : v = 0 := h73
             refine next k F2 hF2 (hI2.skip (fun ⟨y, hy, hC⟩ => ?_))
             have hk1 : KerF (F 2) (I 1 1) (F2 45) := by
               rcases q4 with h | h
               · exact h.2
               · exact absurd h.1 h59
             have e := hun y hy hk1 hC
             rcases hv with h | h
             · exact absurd h.1 (by omega)
             · exact h.2 (lead_ext hC.2.2.1 e))
          | (refine next (k + 1) _ (fun a h1 h2 => by rw [hfr a h2]; exact hF2 a h1 h2) (CInv.put hI2 (by omega) hb2 hn.2 hf (by omega) hDz hC hIns (fun y hy hCy j hj => ?_))
             by_cases hjn : j < I 1 1
             · exact hun y hy hk1 hCy j ⟨hj.1, hjn⟩
             · rw [hz4 j (by omega), hCy.2.2.2 j (by omega)])
theorem s2_collectCandidates {d : Nat} {I : IE} {F : FE} {fc : Nat} (hd : 3 ≤ d) (hn : 0 ≤ I 1 1 ∧ I 1 1 ≤ 4) (h3 : I 42 3 = I 1 1) (h9 : I 42 9 = (fc : Int)) (hM : ∀ j, 0 ≤ F 2 j ∧ F 2 j ≤ 3) (hP : PVs (F 2) (I 1 1) I) (hf : Free (F 44) fc (I 1 1) (I 42 5) (I 42 6)) (hfn : (fc : Int) ≤ I 1 1) :
    MU m2_collectCandidates d shX [rv 42, rv 1] I F (fun I' F' => ∃ m, I' = upI I 42 13 m ∧ 0 ≤ m ∧ m ≤ 180 ∧ (∀ a, a ≠ 45 → a ≠ 46 → F' a = F a) ∧ (∀ i j, 0 ≤ i ∧ i < j ∧ j < m → F' 46 i < F' 46 j) ∧ ∀ x, (∃ i, 0 ≤ i ∧ i < m ∧ F' 46 i = x) ↔ ∃ z, Cnd (F 2) (I 1 1) (I 42 4) z ∧ x = kc z) := by
  obtain ⟨hb1, hb2, hb3⟩ := hf.fc hP hn hfn
  have hpos : 0 < (2 * I 42 4 + 1) ^ fc := Int.pow_pos (by omega)
  refine MS_of (ls := [lr 42, lr 1, lu, lu, lu]) f2_collectCandidates rfl rfl (Nat.le_of_ble_eq_true rfl) ?_
  refine w_const i2_collectCandidates_0 ?_
  refine w_aload i2_collectCandidates_1 rfl ?_
  refine w_get i2_collectCandidates_2 rfl rfl ?_
  refine w_imul i2_collectCandidates_5 (by omega) ?_
  refine w_const i2_collectCandidates_6 ?_
  refine w_iadd i2_collectCandidates_7 (by omega) ?_
  refine w_is2 i2_collectCandidates_8 ?_
  refine w_const i2_collectCandidates_9 ?_
  refine w_is3 i2_collectCandidates_10 ?_
  refine w_const i2_collectCandidates_11 ?_
  refine w_is4 i2_collectCandidates_12 ?_
  refine Eq.mp (congrArg (fun z => WS m2_collectCandidates d 0 0 _ _ 0 0 14 [lr 42, lr 1, li (2 * I 42 4 + 1), li z, li ((0 : Nat) : Int)] [] shX I F) (Int.pow_zero (2 * I 42 4 + 1))) ?_
  refine l2_cc1 (fc := fc) h9 (by omega) ⟨hb1, hb2, hb3⟩ (fun x => ?_) fc 0 (by omega)
  refine w_aload i2_collectCandidates_33 rfl ?_
  refine w_const i2_collectCandidates_34 ?_
  refine w_put i2_collectCandidates_35 rfl rfl (Or.inl rfl) ?_
  refine w_const i2_collectCandidates_38 ?_
  refine w_is4 i2_collectCandidates_39 ?_
  refine l2_cc2 (F := F) (fc := fc) hd hn h3 h9 hM hP hf hfn (fun x m F' h1 h2 => ?_) ((2 * I 42 4 + 1) ^ fc).toNat 0 0 _ (by omega) (fun _ _ _ => rfl) ⟨rfl, fun i j hij => absurd hij (by omega), fun x => ⟨fun ⟨i, h⟩ => absurd h (by omega), fun ⟨c, z, h⟩ => absurd h.1 (by omega)⟩⟩
  obtain ⟨c1, c2, c3⟩ := h2
  have hcnt := gd_count hP hn hf hfn (c := ((2 * I 42 4 + 1) ^ fc).toNat) (by omega)
  refine w_vret i2_collectCandidates_90 rfl ⟨Nat.le_refl _, Nat.le_refl _⟩ ?_
  refine ⟨rfl, rfl, m, rfl, by omega, by omega, h1, c2, fun x => ?_⟩
  rw [c3 x]
  constructor
  · rintro ⟨c', z, -, -, g1, g2⟩; exact ⟨z, g1, g2⟩
  · rintro ⟨z, g1, g2⟩
    obtain ⟨c', k1, k2, k3⟩ := dg_ex (w := 2 * I 42 4 + 1) (by omega) fc (fun i => z (F 44 i) + I 42 4) (fun i hi => by
      have a := hf.1 i (by omega)
      have b := g1.2.1 (F 44 i) ⟨a.1, a.2.1⟩
      omega)
    refine ⟨c'.toNat, z, by omega, fun i hi => ?_, g1, g2⟩
    rw [show ((c'.toNat : Nat) : Int) = c' by omega, k3 i hi]
    omega
