theorem Bsp.nz {M : Int → Int} {n b k : Int} {E : Int → Int → Int} (h : Bsp M n b k E) : ∀ e, 0 ≤ e ∧ e < k → ∃ j, 0 ≤ j ∧ j < n ∧ E e j ≠ 0 := fun e he => by
  obtain ⟨i, i0, i1, i2, i3⟩ := (h.1 e he).2.2.1
  exact ⟨i, i0, i1, by omega⟩
theorem CI.D {S : Sx} {I I' : IE} {F F' : FE} (h : CI S I F) (hf : Dfr I I' F F') : CI S I' F' := by
  obtain ⟨hS, hH, hT, hB, hP⟩ := h
  exact ⟨hS.fr (fun k => hf.1 1 k (by omega)) (fun a ha => hf.2 a (by omega) (by omega)), hH.fr (fun a k ha => hf.1 a k (by omega)) (fun a ha => hf.2 a (by omega) (by omega)), hT.fr (hf.1 39 0 (by omega)) (hf.2 41 (by decide) (by decide)), hB.fr (fun k => hf.1 42 k (by omega)) (hf.2 43 (by decide) (by decide)), hP.fr (fun k => hf.1 50 k (by omega)) (hf.1 0 9 (by omega)) (hf.2 53 (by decide) (by decide))⟩
/-- a whole decomposition of w -/
def Dec (M : Int → Int) (n : Int) (w : Int → Int) (p : Nat × (Int → Int)) : Prop := ∃ rest, DSt n (gE M n) (gk M n) w (2 * gk M n) p.1 rest p.2
/-- the last saved state again -/
def pop (S : Sx) : Sx := (S.2.1.2 (S.2.1.1 - 1), (S.2.1.1 - 1, S.2.1.2), S.2.2)
theorem s3_restore2 {d : Nat} {I : IE} {F : FE} (hd : 2 ≤ d) (hc : 0 < I 5 0 ∧ I 5 0 ≤ 8) (ho : 0 ≤ I 5 1 ∧ I 5 1 < 8) : MU m3_restore d shX [rv 5, rv 1] I F (fun I' F' =>
    ∃ (j : Nat), (j : Int) = (I 5 1 + (I 5 0 - 1)) % 8 ∧ I' 5 0 = I 5 0 - 1 ∧ (∀ k, k = 0 ∨ k = 1 ∨ k = 5 → I' 1 k = I (7 + 4 * j) k) ∧ (∀ k, k ≠ 0 → I' 5 k = I 5 k) ∧ (∀ a k, a ≠ 5 → a ≠ 1 → I' a k = I a k) ∧
      (∀ i, 0 ≤ i ∧ i < 8 → F' 2 i = F (8 + 4 * j) i) ∧ (∀ i, 0 ≤ i ∧ i < 4 → F' 3 i = F (9 + 4 * j) i) ∧ (∀ i, 0 ≤ i ∧ i < 4 → F' 4 i = F (10 + 4 * j) i) ∧ (∀ a, a ≠ 2 → a ≠ 3 → a ≠ 4 → F' a = F a) ∧ (∀ i, ¬ (0 ≤ i ∧ i < 8) → F' 2 i = F 2 i) ∧ (∀ i, ¬ (0 ≤ i ∧ i < 4) → F' 3 i = F 3 i) ∧ (∀ i, ¬ (0 ≤ i ∧ i < 4) → F' 4 i = F 4 i)) := by
  obtain ⟨j, hj⟩ : ∃ j : Nat, (j : Int) = (I 5 1 + (I 5 0 - 1)) % 8 := ⟨((I 5 1 + (I 5 0 - 1)) % 8).toNat, by omega⟩
  have hj8 : j < 8 := by omega
  have et : (I 5 1 + (I 5 0 - 1)).tmod 8 = (j : Int) := by rw [Int.tmod_eq_emod_of_nonneg (by omega), hj]
  refine MS_of (ls := [lr 5, lr 1]) f3_restore rfl rfl (Nat.le_of_ble_eq_true rfl) ?_
  refine w_aload i3_restore_0 rfl ?_
  refine w_get i3_restore_1 rfl rfl ?_
  refine w_ifle i3_restore_4 (fun h_ => absurd h_ (by omega)) (fun h4 => ?_)
  refine w_aload i3_restore_7 rfl ?_
  refine w_dup i3_restore_8 ?_
  refine w_get i3_restore_9 rfl rfl ?_
  refine w_const i3_restore_12 ?_
  refine w_isub i3_restore_13 (by omega) ?_
  refine w_put i3_restore_14 rfl rfl (Or.inl rfl) ?_
  refine w_aload i3_restore_17 rfl ?_
  refine w_aload i3_restore_18 rfl ?_
  refine w_getr i3_restore_19 rfl rfl ?_
  refine w_aload i3_restore_22 rfl ?_
  refine w_get i3_restore_23 rfl rfl ?_
  refine w_aload i3_restore_26 rfl ?_
  refine w_get i3_restore_27 rfl rfl ?_
  rw [show upI I 5 0 (I 5 0 - 1) 5 1 = I 5 1 by simp [upI], show upI I 5 0 (I 5 0 - 1) 5 0 = I 5 0 - 1 by simp [upI]]
  refine w_iadd i3_restore_30 (by omega) ?_
  refine w_const i3_restore_31 ?_
  refine w_irem i3_restore_33 (by decide) ((by rw [et]; constructor <;> omega)) ?_
  rw [et]
  refine w_aald i3_restore_34 rfl (by constructor <;> (try simp) <;> omega) (sl6 j hj8) ?_
  refine w_cVU i3_restore_35 f5_copyFrom v5_copyFrom (s5_copyFrom (by omega) st1 (stj j hj8) (by omega)) rfl rfl (by decide) rfl rfl (Nat.le_of_ble_eq_true rfl) (by omega) (fun I' F' hq => ?_)
  obtain ⟨rfl, rfl⟩ := hq
  refine w_vret i3_restore_38 rfl ⟨Nat.le_refl _, Nat.le_refl _⟩ ?_
  refine ⟨rfl, rfl, j, hj, ?_, ?_, ?_, ?_, ?_, ?_, ?_, ?_, ?_, ?_, ?_⟩
  · simp [upI]
  · intro k hk; rcases hk with rfl | rfl | rfl <;> simp [upI] <;> omega
  · intro k hk; simp [upI, hk]
  · intro a k ha hb; simp [upI, ha, hb]
  · intro i hi; rw [show 8 + 4 * j = 7 + 4 * j + 1 by omega]; simp [cpF]; (repeat' split) <;> first | rfl | omega
  · intro i hi; rw [show 9 + 4 * j = 7 + 4 * j + 2 by omega]; simp [cpF]; (repeat' split) <;> first | rfl | omega
  · intro i hi; rw [show 10 + 4 * j = 7 + 4 * j + 3 by omega]; simp [cpF]; (repeat' split) <;> first | rfl | omega
  · intro a h1 h2 h3; funext i; simp only [cpF]; (repeat' split) <;> first | rfl | omega
  · intro i hi; simp only [cpF]; (repeat' split) <;> first | rfl | omega
  · intro i hi; simp only [cpF]; (repeat' split) <;> first | rfl | omega
  · intro i hi; simp only [cpF]; (repeat' split) <;> first | rfl | omega
