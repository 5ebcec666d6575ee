theorem s3_restore {d : Nat} {I : IE} {F : FE} (hd : 2 ≤ d) (hc : 0 < I 5 0 ∧ I 5 0 ≤ 8) (ho : 0 ≤ I 5 1 ∧ I 5 1 < 8) : MU m3_restore d shX [rv 5, rv 1] I F (fun I' F' =>
    ∃ (j : Nat), (j : Int) = (I 5 1 + (I 5 0 - 1)) % 8 ∧ I' 5 0 = I 5 0 - 1 ∧ (∀ k, k = 0 ∨ k = 1 ∨ k = 5 → I' 1 k = I (7 + 4 * j) k) ∧ (∀ k, k ≠ 0 → I' 5 k = I 5 k) ∧ (∀ a k, a ≠ 5 → a ≠ 1 → I' a k = I a k) ∧
      (∀ i, 0 ≤ i ∧ i < 8 → F' 2 i = F (8 + 4 * j) i) ∧ (∀ i, 0 ≤ i ∧ i < 4 → F' 3 i = F (9 + 4 * j) i) ∧ (∀ i, 0 ≤ i ∧ i < 4 → F' 4 i = F (10 + 4 * j) i) ∧ (∀ a, a ≠ 2 → a ≠ 3 → a ≠ 4 → F' a = F a)) := by
  obtain ⟨j, hj⟩ : ∃ j : Nat, (j : Int) = (I 5 1 + (I 5 0 - 1)) % 8 := ⟨((I 5 1 + (I 5 0 - 1)) % 8).toNat, by omega⟩
  have hj8 : j < 8 := by omega
  have et : (I 5 1 + (I 5 0 - 1)).tmod 8 = (j : Int) := by rw [Int.tmod_eq_emod_of_nonneg (by omega), hj]
  refine MS_of (ls := [lr 5, lr 1]) f3_restore rfl rfl (Nat.le_of_ble_eq_true rfl) ?_
  refine w_aload i3_restore_0 rfl ?_
  refine w_get i3_restore_1 rfl rfl ?_
  refine w_ifle i3_restore_4 (fun h_ => absurd h_ (by omega)) (fun h4 => ?_)
  refine w_aload i3_restore_7 rfl ?_
  refine w_dup i3_restore_8 ?_
  refine w_get i3_restore_9 rfl rfl ?_
  refine w_const i3_restore_12 ?_
  refine w_isub i3_restore_13 (by omega) ?_
  refine w_put i3_restore_14 rfl rfl (Or.inl rfl) ?_
  refine w_aload i3_restore_17 rfl ?_
  refine w_aload i3_restore_18 rfl ?_
  refine w_getr i3_restore_19 rfl rfl ?_
  refine w_aload i3_restore_22 rfl ?_
  refine w_get i3_restore_23 rfl rfl ?_
  refine w_aload i3_restore_26 rfl ?_
  refine w_get i3_restore_27 rfl rfl ?_
  rw [show upI I 5 0 (I 5 0 - 1) 5 1 = I 5 1 by simp [upI], show upI I 5 0 (I 5 0 - 1) 5 0 = I 5 0 - 1 by simp [upI]]
  refine w_iadd i3_restore_30 (by omega) ?_
  refine w_const i3_restore_31 ?_
  refine w_irem i3_restore_33 (by decide) ((by rw [et]; constructor <;> omega)) ?_
  rw [et]
  refine w_aald i3_restore_34 rfl (by constructor <;> (try simp) <;> omega) (sl6 j hj8) ?_
  refine w_cVU i3_restore_35 f5_copyFrom v5_copyFrom (s5_copyFrom (by omega) st1 (stj j hj8) (by omega)) rfl rfl (by decide) rfl rfl (Nat.le_of_ble_eq_true rfl) (by omega) (fun I' F' hq => ?_)
  obtain ⟨rfl, rfl⟩ := hq
  refine w_vret i3_restore_38 rfl ⟨Nat.le_refl _, Nat.le_refl _⟩ ?_
  refine ⟨rfl, rfl, j, hj, ?_, ?_, ?_, ?_, ?_, ?_, ?_, ?_⟩
  · simp [upI]
  · intro k hk; rcases hk with rfl | rfl | rfl <;> simp [upI] <;> omega
  · intro k hk; simp [upI, hk]
  · intro a k ha hb; simp [upI, ha, hb]
  · intro i hi; rw [show 8 + 4 * j = 7 + 4 * j + 1 by omega]; simp [cpF]; (repeat' split) <;> first | rfl | omega
  · intro i hi; rw [show 9 + 4 * j = 7 + 4 * j + 2 by omega]; simp [cpF]; (repeat' split) <;> first | rfl | omega
  · intro i hi; rw [show 10 + 4 * j = 7 + 4 * j + 3 by omega]; simp [cpF]; (repeat' split) <;> first | rfl | omega
  · intro a h1 h2 h3; funext i; simp only [cpF]; (repeat' split) <;> first | rfl | omega
-- the text: place 39: 0 length, 1 rows, 2 columns, 3 digits (40), 4 characters (41), 5 digitsInRow
/-- how a text is read: rows begun, digits of the first row, of the second, the digits by places -/
abbrev PSt : Type := Int × Int × Int × (Int → Int)
def dgp (g : Int → Int) (k x : Int) : Int → Int := fun j => if j = k then x else g j
def pstep (ch : Int) (p : PSt) : Option PSt :=
  if ch = 32 then some p
  else if ch = 59 then (if p.1 = 1 ∧ 2 ≤ p.2.1 then some (2, p.2.1, 0, p.2.2.2) else none)
  else if 48 ≤ ch ∧ ch ≤ 51 then
    (if p.1 = 1 then (if p.2.1 < 4 then some (1, p.2.1 + 1, p.2.2.1, dgp p.2.2.2 p.2.1 (ch - 48)) else none)
     else (if p.2.2.1 < p.2.1 then some (2, p.2.1, p.2.2.1 + 1, dgp p.2.2.2 (4 + p.2.2.1) (ch - 48)) else none))
  else none
def prun (c : Int → Int) : Nat → Option PSt
  | 0 => some (1, 0, 0, fun _ => 0)
  | k + 1 => (prun c k).bind (pstep (c k))
def pok (p : PSt) : Prop := (p.1 = 1 ∧ p.2.2.1 = 0 ∨ p.1 = 2 ∧ 2 ≤ p.2.1 ∧ p.2.2.1 ≤ p.2.1) ∧ 0 ≤ p.2.1 ∧ p.2.1 ≤ 4 ∧ 0 ≤ p.2.2.1 ∧ ∀ j, 0 ≤ p.2.2.2 j ∧ p.2.2.2 j ≤ 3
theorem pstep_ok {ch : Int} {p q : PSt} (hp : pok p) (h : pstep ch p = some q) : pok q := by
  obtain ⟨r, d0, d1, g⟩ := p
  obtain ⟨h1, h2, h3, h4, h5⟩ := hp
  simp only at h1 h2 h3 h4 h5
  unfold pstep at h
  simp only at h
  (repeat' split at h) <;> first | cases h | skip
  · exact ⟨h1, h2, h3, h4, h5⟩
  · exact ⟨Or.inr ⟨rfl, by simp only; omega, by simp only; omega⟩, h2, h3, by simp, h5⟩
  · refine ⟨Or.inl ⟨rfl, by simp only; omega⟩, by simp only; omega, by simp only; omega, h4, fun j => ?_⟩
    simp only [dgp]
    have := h5 j
    split <;> omega
  · refine ⟨Or.inr ⟨rfl, by simp only; omega, by simp only; omega⟩, h2, h3, by simp only; omega, fun j => ?_⟩
    simp only [dgp]
    have := h5 j
    split <;> omega
theorem prun_ok {c : Int → Int} : ∀ (k : Nat) {p : PSt}, prun c k = some p → pok p
  | 0, p, h => by
    cases h
    exact ⟨Or.inl ⟨rfl, rfl⟩, by decide, by decide, by decide, fun j => by simp⟩
  | k + 1, p, h => by
    simp only [prun] at h
    cases hk : prun c k with
    | none => rw [hk] at h; cases h
    | some q => rw [hk] at h; exact pstep_ok (prun_ok k hk) h
/-- enough digits -/
def pend (p : PSt) : Prop := if p.1 = 1 then 2 ≤ p.2.1 else p.2.1 ≤ p.2.2.1
/-- the component's reading, as far as p -/
def TR (I : IE) (F : FE) (p : PSt) : Prop := I 39 1 = p.1 ∧ (p.1 = 1 → I 39 5 = p.2.1) ∧ (p.1 = 2 → I 39 2 = p.2.1 ∧ I 39 5 = p.2.2.1) ∧ (∀ j, 0 ≤ j ∧ j < p.2.1 → F 40 j = p.2.2.2 j) ∧ (∀ j, 0 ≤ j ∧ j < p.2.2.1 → F 40 (4 + j) = p.2.2.2 (4 + j))
def Tfr (I I' : IE) (F F' : FE) : Prop := (∀ a k, a ≠ 39 → I' a k = I a k) ∧ I' 39 0 = I 39 0 ∧ ∀ a, a ≠ 40 → F' a = F a
theorem Tfr.rf {I : IE} {F : FE} : Tfr I I F F := ⟨fun _ _ _ => rfl, rfl, fun _ _ => rfl⟩
theorem Tfr.tr {I I1 I2 : IE} {F F1 F2 : FE} (h : Tfr I I1 F F1) (g : Tfr I1 I2 F1 F2) : Tfr I I2 F F2 := ⟨fun a k ha => (g.1 a k ha).trans (h.1 a k ha), g.2.1.trans h.2.1, fun a ha => (g.2.2 a ha).trans (h.2.2 a ha)⟩
/-- what the reading of the first n characters comes to: the error's position, or -1 -/
def PErr (c : Int → Int) (n : Nat) (v : Int) : Prop := (∃ k p, k < n ∧ prun c k = some p ∧ prun c (k + 1) = none ∧ v = (k : Int)) ∨ (∃ p, prun c n = some p ∧ ¬ pend p ∧ v = n) ∨ (∃ p, prun c n = some p ∧ pend p ∧ v = -1)
