theorem Bsp.nz {M : Int → Int} {n b k : Int} {E : Int → Int → Int} (h : Bsp M n b k E) : ∀ e, 0 ≤ e ∧ e < k → ∃ j, 0 ≤ j ∧ j < n ∧ E e j ≠ 0 := fun e he => by
  obtain ⟨i, i0, i1, i2, i3⟩ := (h.1 e he).2.2.1
  exact ⟨i, i0, i1, by omega⟩
theorem CI.D {S : Sx} {I I' : IE} {F F' : FE} (h : CI S I F) (hf : Dfr I I' F F') : CI S I' F' := by
  obtain ⟨hS, hH, hT, hB, hP⟩ := h
  exact ⟨hS.fr (fun k => hf.1 1 k (by omega)) (fun a ha => hf.2 a (by omega) (by omega)), hH.fr (fun a k ha => hf.1 a k (by omega)) (fun a ha => hf.2 a (by omega) (by omega)), hT.fr (hf.1 39 0 (by omega)) (hf.2 41 (by decide) (by decide)), hB.fr (fun k => hf.1 42 k (by omega)) (hf.2 43 (by decide) (by decide)), hP.fr (fun k => hf.1 50 k (by omega)) (hf.1 0 9 (by omega)) (hf.2 53 (by decide) (by decide))⟩
/-- a whole decomposition of w -/
def Dec (M : Int → Int) (n : Int) (w : Int → Int) (p : Nat × (Int → Int)) : Prop := ∃ rest, DSt n (gE M n) (gk M n) w (2 * gk M n) p.1 rest p.2
/-- the last saved state again -/
def pop (S : Sx) : Sx := (S.2.1.2 (S.2.1.1 - 1), (S.2.1.1 - 1, S.2.1.2), S.2.2)
theorem s3_restore2 {d : Nat} {I : IE} {F : FE} (hd : 2 ≤ d) (hc : 0 < I 5 0 ∧ I 5 0 ≤ 8) (ho : 0 ≤ I 5 1 ∧ I 5 1 < 8) : MU m3_restore d shX [rv 5, rv 1] I F (fun I' F' =>
    ∃ (j : Nat), (j : Int) = (I 5 1 + (I 5 0 - 1)) % 8 ∧ I' 5 0 = I 5 0 - 1 ∧ (∀ k, k = 0 ∨ k = 1 ∨ k = 5 → I' 1 k = I (7 + 4 * j) k) ∧ (∀ k, k ≠ 0 → I' 5 k = I 5 k) ∧ (∀ a k, a ≠ 5 → a ≠ 1 → I' a k = I a k) ∧
      (∀ i, 0 ≤ i ∧ i < 8 → F' 2 i = F (8 + 4 * j) i) ∧ (∀ i, 0 ≤ i ∧ i < 4 → F' 3 i = F (9 + 4 * j) i) ∧ (∀ i, 0 ≤ i ∧ i < 4 → F' 4 i = F (10 + 4 * j) i) ∧ (∀ a, a ≠ 2 → a ≠ 3 → a ≠ 4 → F' a = F a) ∧ (∀ i, ¬ (0 ≤ i ∧ i < 8) → F' 2 i = F 2 i) ∧ (∀ i, ¬ (0 ≤ i ∧ i < 4) → F' 3 i = F 3 i) ∧ (∀ i, ¬ (0 ≤ i ∧ i < 4) → F' 4 i = F 4 i)) := by
  obtain ⟨j, hj⟩ : ∃ j : Nat, (j : Int) = (I 5 1 + (I 5 0 - 1)) % 8 := ⟨((I 5 1 + (I 5 0 - 1)) % 8).toNat, by omega⟩
  have hj8 : j < 8 := by omega
  have et : (I 5 1 + (I 5 0 - 1)).tmod 8 = (j : Int) := by rw [Int.tmod_eq_emod_of_nonneg (by omega), hj]
  refine MS_of (ls := [lr 5, lr 1]) f3_restore rfl rfl (Nat.le_of_ble_eq_true rfl) ?_
  refine w_aload i3_restore_0 rfl ?_
  refine w_get i3_restore_1 rfl rfl ?_
  refine w_ifle i3_restore_4 (fun h_ => absurd h_ (by omega)) (fun h4 => ?_)
  refine w_aload i3_restore_7 rfl ?_
  refine w_dup i3_restore_8 ?_
  refine w_get i3_restore_9 rfl rfl ?_
  refine w_const i3_restore_12 ?_
  refine w_isub i3_restore_13 (by omega) ?_
  refine w_put i3_restore_14 rfl rfl (Or.inl rfl) ?_
  refine w_aload i3_restore_17 rfl ?_
  refine w_aload i3_restore_18 rfl ?_
  refine w_getr i3_restore_19 rfl rfl ?_
  refine w_aload i3_restore_22 rfl ?_
  refine w_get i3_restore_23 rfl rfl ?_
  refine w_aload i3_restore_26 rfl ?_
  refine w_get i3_restore_27 rfl rfl ?_
  rw [show upI I 5 0 (I 5 0 - 1) 5 1 = I 5 1 by simp [upI], show upI I 5 0 (I 5 0 - 1) 5 0 = I 5 0 - 1 by simp [upI]]
  refine w_iadd i3_restore_30 (by omega) ?_
  refine w_const i3_restore_31 ?_
  refine w_irem i3_restore_33 (by decide) ((by rw [et]; constructor <;> omega)) ?_
  rw [et]
  refine w_aald i3_restore_34 rfl (by constructor <;> (try simp) <;> omega) (sl6 j hj8) ?_
  refine w_cVU i3_restore_35 f5_copyFrom v5_copyFrom (s5_copyFrom (by omega) st1 (stj j hj8) (by omega)) rfl rfl (by decide) rfl rfl (Nat.le_of_ble_eq_true rfl) (by omega) (fun I' F' hq => ?_)
  obtain ⟨rfl, rfl⟩ := hq
  refine w_vret i3_restore_38 rfl ⟨Nat.le_refl _, Nat.le_refl _⟩ ?_
  refine ⟨rfl, rfl, j, hj, ?_, ?_, ?_, ?_, ?_, ?_, ?_, ?_, ?_, ?_, ?_⟩
  · simp [upI]
  · intro k hk; rcases hk with rfl | rfl | rfl <;> simp [upI] <;> omega
  · intro k hk; simp [upI, hk]
  · intro a k ha hb; simp [upI, ha, hb]
  · intro i hi; rw [show 8 + 4 * j = 7 + 4 * j + 1 by omega]; simp [cpF]; (repeat' split) <;> first | rfl | omega
  · intro i hi; rw [show 9 + 4 * j = 7 + 4 * j + 2 by omega]; simp [cpF]; (repeat' split) <;> first | rfl | omega
  · intro i hi; rw [show 10 + 4 * j = 7 + 4 * j + 3 by omega]; simp [cpF]; (repeat' split) <;> first | rfl | omega
  · intro a h1 h2 h3; funext i; simp only [cpF]; (repeat' split) <;> first | rfl | omega
  · intro i hi; simp only [cpF]; (repeat' split) <;> first | rfl | omega
  · intro i hi; simp only [cpF]; (repeat' split) <;> first | rfl | omega
  · intro i hi; simp only [cpF]; (repeat' split) <;> first | rfl | omega
theorem s7_undo {d : Nat} {I : IE} {F : FE} {S : Sx} (hcap : CapB) (hd : 5 ≤ d) (h : CI S I F) : MB m7_undo d shX [rv 0] I F (fun v I' F' =>
    if S.2.1.1 = 0 then v = -1002 ∧ CI S I' F' else v = (S.2.1.1 : Int) - 1 ∧ CI (pop S) I' F') := by
  have h0 := h
  obtain ⟨hS, ⟨h1, h2, h3, h4⟩, hT, hB, hP⟩ := h
  obtain ⟨⟨v1, v2, v3, v4, v5, v6, v7, v8, v9⟩, s1, s2, s3, s4, s5, s6, s7⟩ := hS
  by_cases hc : S.2.1.1 = 0
  · simp only [if_pos hc]
    refine MS_of (ls := [lr 0]) f7_undo rfl rfl (Nat.le_of_ble_eq_true rfl) ?_
    refine w_aload i7_undo_0 rfl ?_
    refine w_getr i7_undo_1 rfl rfl ?_
    refine w_get i7_undo_4 rfl rfl ?_
    refine w_ifne i7_undo_7 (fun h_ => absurd h_ (by omega)) (fun h7 => ?_)
    refine w_const i7_undo_10 ?_
    refine w_iret i7_undo_13 (Or.inl rfl) ⟨Nat.le_refl _, Nat.le_refl _⟩ ?_
    exact ⟨rfl, _, rfl, rfl, h0⟩
  · simp only [if_neg hc]
    refine MS_of (ls := [lr 0]) f7_undo rfl rfl (Nat.le_of_ble_eq_true rfl) ?_
    refine w_aload i7_undo_0 rfl ?_
    refine w_getr i7_undo_1 rfl rfl ?_
    refine w_get i7_undo_4 rfl rfl ?_
    refine w_ifne i7_undo_7 (fun h7 => ?_) (fun h_ => absurd h_ (by omega))
    refine w_aload i7_undo_14 rfl ?_
    refine w_getr i7_undo_15 rfl rfl ?_
    refine w_aload i7_undo_18 rfl ?_
    refine w_getr i7_undo_19 rfl rfl ?_
    refine w_cVU i7_undo_22 f3_restore v3_restore (s3_restore2 (by omega) (by omega) h3) rfl rfl (by decide) rfl rfl (Nat.le_of_ble_eq_true rfl) (by omega) (fun I1 F1 hq => ?_)
    obtain ⟨j, hj, e0, e1, e2, e3, f2, f3, f4, ff, g2, g3, g4⟩ := hq
    obtain ⟨⟨w1, w2, w3, w4, w5, w6, w7, w8, w9⟩, t1, t2, t3, t4, t5, t6, t7⟩ := h4 (S.2.1.1 - 1) j (by omega) (by omega)
    have m2 : F1 2 = gM (S.2.1.2 (S.2.1.1 - 1)) := by
      funext i
      by_cases hi : 0 ≤ i ∧ i < 8
      · rw [f2 i hi, ← t3 i hi, show 7 + 4 * j + 1 = 8 + 4 * j by omega]
      · rw [g2 i hi, s3, v4 i (by omega), w4 i (by omega)]
    have m3 : F1 3 = gZ (S.2.1.2 (S.2.1.1 - 1)) := by
      funext i
      by_cases hi : 0 ≤ i ∧ i < 4
      · rw [f3 i hi, ← t4 i hi, show 7 + 4 * j + 2 = 9 + 4 * j by omega]
      · rw [g3 i hi, s4, v6 i (by omega), w6 i (by omega)]
    have m4 : F1 4 = gY (S.2.1.2 (S.2.1.1 - 1)) := by
      funext i
      by_cases hi : 0 ≤ i ∧ i < 4
      · rw [f4 i hi, ← t5 i hi, show 7 + 4 * j + 3 = 10 + 4 * j by omega]
      · rw [g4 i hi, s5, v8 i (by omega), w8 i (by omega)]
    have u : ∀ a k, (a ≠ 0 ∨ k ≠ 9) → upI I1 0 9 0 a k = I1 a k := fun a k ha => by simp only [upI]; rw [if_neg (by omega)]
    have c1 : upI I1 0 9 0 1 1 = gC (S.2.1.2 (S.2.1.1 - 1)) := by rw [u 1 1 (by decide), e1 1 (by decide), t2]
    refine w_aload i7_undo_25 rfl ?_
    refine w_const i7_undo_26 ?_
    refine w_put i7_undo_27 rfl rfl (Or.inr ⟨rfl, by omega⟩) ?_
    refine w_aload i7_undo_30 rfl ?_
    refine w_getr i7_undo_31 rfl rfl ?_
    refine w_aload i7_undo_34 rfl ?_
    refine w_getr i7_undo_35 rfl rfl ?_
    refine w_cVU i7_undo_38 f2_build v2_build (s2_build (by omega) (by rw [c1]; omega) (by rw [m2]; exact w3) (by rw [ff 43 (by decide) (by decide) (by decide)]; exact hB.2.2.1) (by rw [c1, m2]; exact hcap _ _ w2 w3)) rfl rfl (by decide) rfl rfl (Nat.le_of_ble_eq_true rfl) (by omega) (fun I2 F2 hs => ?_)
    refine w_aload i7_undo_41 rfl ?_
    refine w_getr i7_undo_42 rfl rfl ?_
    refine w_get i7_undo_45 rfl rfl ?_
    refine w_iret i7_undo_48 (Or.inl rfl) ⟨Nat.le_refl _, Nat.le_refl _⟩ ?_
    obtain ⟨⟨k1, k2⟩, q1, q2, q3, q4, b, q5, q6⟩ := hs
    rw [c1] at q1 q5 q6
    rw [m2] at q5 q6
    have ii : ∀ a k, a ≠ 42 → (a ≠ 0 ∨ k ≠ 9) → I2 a k = I1 a k := fun a k h1 h2 => by rw [k1 a k h1, u a k h2]
    have fk : ∀ a, a ≠ 43 → a ≠ 44 → a ≠ 45 → a ≠ 46 → F2 a = F1 a := k2
    refine ⟨rfl, _, rfl, by rw [ii 5 0 (by decide) (by decide), e0, h1], ⟨⟨w1, w2, w3, w4, w5, w6, w7, w8, w9⟩, by rw [ii 1 0 (by decide) (by decide), e1 0 (by decide), t1]; rfl, by rw [ii 1 1 (by decide) (by decide), e1 1 (by decide), t2]; rfl, by rw [fk 2 (by decide) (by decide) (by decide) (by decide), m2]; rfl, by rw [fk 3 (by decide) (by decide) (by decide) (by decide), m3]; rfl, by rw [fk 4 (by decide) (by decide) (by decide) (by decide), m4]; rfl, by rw [ii 1 5 (by decide) (by decide), e1 5 (by decide)]; exact t6, by rw [ii 1 5 (by decide) (by decide), e1 5 (by decide)]; exact t7⟩, ?_, hT.fr (by rw [ii 39 0 (by decide) (by decide), e3 39 0 (by decide) (by decide)]) (by rw [fk 41 (by decide) (by decide) (by decide) (by decide), ff 41 (by decide) (by decide) (by decide)]), ⟨q1, ⟨q2, q3⟩, q4, b, q5, q6⟩, Or.inl (by rw [k1 0 9 (by decide)]; simp [upI])⟩
    refine ⟨by rw [ii 5 0 (by decide) (by decide), e0, h1]; show ((S.2.1.1 : Nat) : Int) - 1 = ((S.2.1.1 - 1 : Nat) : Int); omega, by show S.2.1.1 - 1 ≤ 8; omega, by rw [ii 5 1 (by decide) (by decide), e2 1 (by decide)]; exact h3, fun i j' hi hj' => ?_⟩
    rw [ii 5 1 (by decide) (by decide), e2 1 (by decide)] at hj'
    have hi' : i < S.2.1.1 - 1 := hi
    obtain ⟨x1, x2⟩ := h4 i j' (by omega) hj'
    exact ⟨x1, x2.fr (fun k _ => by rw [ii _ k (by omega) (by omega), e3 _ k (by omega) (by omega)]) (fun i _ => by rw [fk _ (by omega) (by omega) (by omega) (by omega), ff _ (by omega) (by omega) (by omega)]) (fun i _ => by rw [fk _ (by omega) (by omega) (by omega) (by omega), ff _ (by omega) (by omega) (by omega)]) (fun i _ => by rw [fk _ (by omega) (by omega) (by omega) (by omega), ff _ (by omega) (by omega) (by omega)])⟩
