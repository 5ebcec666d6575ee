theorem s3_restore {d : Nat} {I : IE} {F : FE} (hd : 2 ≤ d) (hc : 0 < I 5 0 ∧ I 5 0 ≤ 8) (ho : 0 ≤ I 5 1 ∧ I 5 1 < 8) : MU m3_restore d shX [rv 5, rv 1] I F (fun I' F' =>
    ∃ (j : Nat), (j : Int) = (I 5 1 + (I 5 0 - 1)) % 8 ∧ I' 5 0 = I 5 0 - 1 ∧ (∀ k, k = 0 ∨ k = 1 ∨ k = 5 → I' 1 k = I (7 + 4 * j) k) ∧ (∀ k, k ≠ 0 → I' 5 k = I 5 k) ∧ (∀ a k, a ≠ 5 → a ≠ 1 → I' a k = I a k) ∧
      (∀ i, 0 ≤ i ∧ i < 8 → F' 2 i = F (8 + 4 * j) i) ∧ (∀ i, 0 ≤ i ∧ i < 4 → F' 3 i = F (9 + 4 * j) i) ∧ (∀ i, 0 ≤ i ∧ i < 4 → F' 4 i = F (10 + 4 * j) i) ∧ (∀ a, a ≠ 2 → a ≠ 3 → a ≠ 4 → F' a = F a)) := by
  obtain ⟨j, hj⟩ : ∃ j : Nat, (j : Int) = (I 5 1 + (I 5 0 - 1)) % 8 := ⟨((I 5 1 + (I 5 0 - 1)) % 8).toNat, by omega⟩
  have hj8 : j < 8 := by omega
  have et : (I 5 1 + (I 5 0 - 1)).tmod 8 = (j : Int) := by rw [Int.tmod_eq_emod_of_nonneg (by omega), hj]
  refine MS_of (ls := [lr 5, lr 1]) f3_restore rfl rfl (Nat.le_of_ble_eq_true rfl) ?_
  refine w_aload i3_restore_0 rfl ?_
  refine w_get i3_restore_1 rfl rfl ?_
  refine w_ifle i3_restore_4 (fun h_ => absurd h_ (by omega)) (fun h4 => ?_)
  refine w_aload i3_restore_7 rfl ?_
  refine w_dup i3_restore_8 ?_
  refine w_get i3_restore_9 rfl rfl ?_
  refine w_const i3_restore_12 ?_
  refine w_isub i3_restore_13 (by omega) ?_
  refine w_put i3_restore_14 rfl rfl (Or.inl rfl) ?_
  refine w_aload i3_restore_17 rfl ?_
  refine w_aload i3_restore_18 rfl ?_
  refine w_getr i3_restore_19 rfl rfl ?_
  refine w_aload i3_restore_22 rfl ?_
  refine w_get i3_restore_23 rfl rfl ?_
  refine w_aload i3_restore_26 rfl ?_
  refine w_get i3_restore_27 rfl rfl ?_
  rw [show upI I 5 0 (I 5 0 - 1) 5 1 = I 5 1 by simp [upI], show upI I 5 0 (I 5 0 - 1) 5 0 = I 5 0 - 1 by simp [upI]]
  refine w_iadd i3_restore_30 (by omega) ?_
  refine w_const i3_restore_31 ?_
  refine w_irem i3_restore_33 (by decide) ((by rw [et]; constructor <;> omega)) ?_
  rw [et]
  refine w_aald i3_restore_34 rfl (by constructor <;> (try simp) <;> omega) (sl6 j hj8) ?_
  refine w_cVU i3_restore_35 f5_copyFrom v5_copyFrom (s5_copyFrom (by omega) st1 (stj j hj8) (by omega)) rfl rfl (by decide) rfl rfl (Nat.le_of_ble_eq_true rfl) (by omega) (fun I' F' hq => ?_)
  obtain ⟨rfl, rfl⟩ := hq
  refine w_vret i3_restore_38 rfl ⟨Nat.le_refl _, Nat.le_refl _⟩ ?_
  refine ⟨rfl, rfl, j, hj, ?_, ?_, ?_, ?_, ?_, ?_, ?_, ?_⟩
  · simp [upI]
  · intro k hk; rcases hk with rfl | rfl | rfl <;> simp [upI] <;> omega
  · intro k hk; simp [upI, hk]
  · intro a k ha hb; simp [upI, ha, hb]
  · intro i hi; rw [show 8 + 4 * j = 7 + 4 * j + 1 by omega]; simp [cpF]; (repeat' split) <;> first | rfl | omega
  · intro i hi; rw [show 9 + 4 * j = 7 + 4 * j + 2 by omega]; simp [cpF]; (repeat' split) <;> first | rfl | omega
  · intro i hi; rw [show 10 + 4 * j = 7 + 4 * j + 3 by omega]; simp [cpF]; (repeat' split) <;> first | rfl | omega
  · intro a h1 h2 h3; funext i; simp only [cpF]; (repeat' split) <;> first | rfl | omega
-- the text: place 39: 0 length, 1 rows, 2 columns, 3 digits (40), 4 characters (41), 5 digitsInRow
theorem s4_add {d : Nat} {I : IE} {F : FE} {x : Int} (h : 0 ≤ I 39 0 ∧ I 39 0 < 40) : MU m4_add d shX [rv 39, iv x] I F (fun I' F' => I' = upI I 39 0 (I 39 0 + 1) ∧ F' = upF F 41 (I 39 0) x) := by
  refine MS_of (ls := [lr 39, li x]) f4_add rfl rfl (Nat.le_of_ble_eq_true rfl) ?_
  refine w_aload i4_add_0 rfl ?_
  refine w_get i4_add_1 rfl rfl ?_
  refine w_const i4_add_4 ?_
  refine w_icmpge i4_add_6 (fun h_ => absurd h_ (by omega)) (fun h6 => ?_)
  refine w_aload i4_add_9 rfl ?_
  refine w_getr i4_add_10 rfl rfl ?_
  refine w_aload i4_add_13 rfl ?_
  refine w_get i4_add_14 rfl rfl ?_
  refine w_iload i4_add_17 rfl ?_
  refine w_iast i4_add_18 rfl (by omega) ?_
  refine w_aload i4_add_19 rfl ?_
  refine w_dup i4_add_20 ?_
  refine w_get i4_add_21 rfl rfl ?_
  refine w_const i4_add_24 ?_
  refine w_iadd i4_add_25 (by omega) ?_
  refine w_put i4_add_26 rfl rfl (Or.inl rfl) ?_
  refine w_vret i4_add_29 rfl ⟨Nat.le_refl _, Nat.le_refl _⟩ ?_
  exact ⟨rfl, rfl, rfl, rfl⟩
/-- how a text is read: rows begun, digits of the first row, of the second, the digits by places -/
abbrev PSt : Type := Int × Int × Int × (Int → Int)
def dgp (g : Int → Int) (k x : Int) : Int → Int := fun j => if j = k then x else g j
def pstep (ch : Int) (p : PSt) : Option PSt :=
  if ch = 32 then some p
  else if ch = 59 then (if p.1 = 1 ∧ 2 ≤ p.2.1 then some (2, p.2.1, 0, p.2.2.2) else none)
  else if 48 ≤ ch ∧ ch ≤ 51 then
    (if p.1 = 1 then (if p.2.1 < 4 then some (1, p.2.1 + 1, p.2.2.1, dgp p.2.2.2 p.2.1 (ch - 48)) else none)
     else (if p.2.2.1 < p.2.1 then some (2, p.2.1, p.2.2.1 + 1, dgp p.2.2.2 (4 + p.2.2.1) (ch - 48)) else none))
  else none
def prun (c : Int → Int) : Nat → Option PSt
  | 0 => some (1, 0, 0, fun _ => 0)
  | k + 1 => (prun c k).bind (pstep (c k))
def pok (p : PSt) : Prop := (p.1 = 1 ∧ p.2.2.1 = 0 ∨ p.1 = 2 ∧ 2 ≤ p.2.1 ∧ p.2.2.1 ≤ p.2.1) ∧ 0 ≤ p.2.1 ∧ p.2.1 ≤ 4 ∧ 0 ≤ p.2.2.1 ∧ ∀ j, 0 ≤ p.2.2.2 j ∧ p.2.2.2 j ≤ 3
theorem pstep_ok {ch : Int} {p q : PSt} (hp : pok p) (h : pstep ch p = some q) : pok q := by
  obtain ⟨r, d0, d1, g⟩ := p
  obtain ⟨h1, h2, h3, h4, h5⟩ := hp
  simp only at h1 h2 h3 h4 h5
  unfold pstep at h
  simp only at h
  (repeat' split at h) <;> first | cases h | skip
  · exact ⟨h1, h2, h3, h4, h5⟩
  · exact ⟨Or.inr ⟨rfl, by simp only; omega, by simp only; omega⟩, h2, h3, by simp, h5⟩
  · refine ⟨Or.inl ⟨rfl, by simp only; omega⟩, by simp only; omega, by simp only; omega, h4, fun j => ?_⟩
    simp only [dgp]
    have := h5 j
    split <;> omega
  · refine ⟨Or.inr ⟨rfl, by simp only; omega, by simp only; omega⟩, h2, h3, by simp only; omega, fun j => ?_⟩
    simp only [dgp]
    have := h5 j
    split <;> omega
theorem prun_ok {c : Int → Int} : ∀ (k : Nat) {p : PSt}, prun c k = some p → pok p
  | 0, p, h => by
    cases h
    exact ⟨Or.inl ⟨rfl, rfl⟩, by decide, by decide, by decide, fun j => by simp⟩
  | k + 1, p, h => by
    simp only [prun] at h
    cases hk : prun c k with
    | none => rw [hk] at h; cases h
    | some q => rw [hk] at h; exact pstep_ok (prun_ok k hk) h
/-- enough digits -/
def pend (p : PSt) : Prop := if p.1 = 1 then 2 ≤ p.2.1 else p.2.1 ≤ p.2.2.1
/-- the component's reading, as far as p -/
def TR (I : IE) (F : FE) (p : PSt) : Prop := I 39 1 = p.1 ∧ (p.1 = 1 → I 39 5 = p.2.1) ∧ (p.1 = 2 → I 39 2 = p.2.1 ∧ I 39 5 = p.2.2.1) ∧ (∀ j, 0 ≤ j ∧ j < p.2.1 → F 40 j = p.2.2.2 j) ∧ (∀ j, 0 ≤ j ∧ j < p.2.2.1 → F 40 (4 + j) = p.2.2.2 (4 + j))
def Tfr (I I' : IE) (F F' : FE) : Prop := (∀ a k, a ≠ 39 → I' a k = I a k) ∧ I' 39 0 = I 39 0 ∧ ∀ a, a ≠ 40 → F' a = F a
theorem Tfr.rf {I : IE} {F : FE} : Tfr I I F F := ⟨fun _ _ _ => rfl, rfl, fun _ _ => rfl⟩
theorem Tfr.tr {I I1 I2 : IE} {F F1 F2 : FE} (h : Tfr I I1 F F1) (g : Tfr I1 I2 F1 F2) : Tfr I I2 F F2 := ⟨fun a k ha => (g.1 a k ha).trans (h.1 a k ha), g.2.1.trans h.2.1, fun a ha => (g.2.2 a ha).trans (h.2.2 a ha)⟩
theorem s4_takesRowEnd {d : Nat} {I : IE} {F : FE} {p : PSt} (hp : pok p) (hT : TR I F p) : MB m4_takesRowEnd d shX [rv 39] I F (fun v I' F' => Tfr I I' F F' ∧ (v = 1 ∧ (∃ q, pstep 59 p = some q ∧ TR I' F' q) ∨ v = 0 ∧ pstep 59 p = none)) := by
  obtain ⟨r, d0, d1, g⟩ := p
  obtain ⟨p1, p2, p3, p4, p5⟩ := hp
  obtain ⟨t1, t2, t3, t4, t5⟩ := hT
  simp only at p1 p2 p3 p4 p5 t1 t2 t3 t4 t5
  have e : pstep 59 (r, d0, d1, g) = if r = 1 ∧ 2 ≤ d0 then some (2, d0, 0, g) else none := rfl
  rw [e]
  refine MS_of (ls := [lr 39]) f4_takesRowEnd rfl rfl (Nat.le_of_ble_eq_true rfl) ?_
  refine w_aload i4_takesRowEnd_0 rfl ?_
  refine w_get i4_takesRowEnd_1 rfl rfl ?_
  refine w_const i4_takesRowEnd_4 ?_
  refine w_icmpeq i4_takesRowEnd_5 (fun h5 => ?_) (fun h5 => ?_)
  · refine w_const i4_takesRowEnd_16 ?_
    refine w_iret i4_takesRowEnd_17 (Or.inr ⟨rfl, by omega⟩) ⟨Nat.le_refl _, Nat.le_refl _⟩ ?_
    refine ⟨rfl, _, rfl, Tfr.rf, Or.inr ⟨rfl, ?_⟩⟩
    rw [if_neg (by omega)]
  · refine w_aload i4_takesRowEnd_8 rfl ?_
    refine w_get i4_takesRowEnd_9 rfl rfl ?_
    refine w_const i4_takesRowEnd_12 ?_
    refine w_icmpge i4_takesRowEnd_13 (fun h13 => ?_) (fun h13 => ?_)
    · refine w_aload i4_takesRowEnd_18 rfl ?_
      refine w_aload i4_takesRowEnd_19 rfl ?_
      refine w_get i4_takesRowEnd_20 rfl rfl ?_
      refine w_put i4_takesRowEnd_23 rfl rfl (Or.inl rfl) ?_
      refine w_aload i4_takesRowEnd_26 rfl ?_
      refine w_const i4_takesRowEnd_27 ?_
      refine w_put i4_takesRowEnd_28 rfl rfl (Or.inl rfl) ?_
      refine w_aload i4_takesRowEnd_31 rfl ?_
      refine w_const i4_takesRowEnd_32 ?_
      refine w_put i4_takesRowEnd_33 rfl rfl (Or.inl rfl) ?_
      refine w_const i4_takesRowEnd_36 ?_
      refine w_iret i4_takesRowEnd_37 (Or.inr ⟨rfl, by omega⟩) ⟨Nat.le_refl _, Nat.le_refl _⟩ ?_
      refine ⟨rfl, _, rfl, ⟨fun a k ha => by simp [upI, ha], by simp [upI], fun a _ => rfl⟩, Or.inl ⟨rfl, (2, d0, 0, g), ?_, ?_⟩⟩
      · rw [if_pos (by omega)]
      · refine ⟨by simp [upI], fun h => absurd h (by simp), fun _ => ⟨by simp [upI]; omega, by simp [upI]⟩, t4, fun j hj => ?_⟩
        simp only at hj; omega
    · refine w_const i4_takesRowEnd_16 ?_
      refine w_iret i4_takesRowEnd_17 (Or.inr ⟨rfl, by omega⟩) ⟨Nat.le_refl _, Nat.le_refl _⟩ ?_
      refine ⟨rfl, _, rfl, Tfr.rf, Or.inr ⟨rfl, ?_⟩⟩
      rw [if_neg (by omega)]
theorem s4_takesDigit {d : Nat} {I : IE} {F : FE} {p : PSt} {ch : Int} (hp : pok p) (hT : TR I F p) (h1 : ch ≠ 32) (h2 : ch ≠ 59) : MB m4_takesDigit d shX [rv 39, iv (ch - 48)] I F (fun v I' F' => Tfr I I' F F' ∧ (v = 1 ∧ (∃ q, pstep ch p = some q ∧ TR I' F' q) ∨ v = 0 ∧ pstep ch p = none)) := by
  obtain ⟨r, d0, d1, g⟩ := p
  obtain ⟨p1, p2, p3, p4, p5⟩ := hp
  obtain ⟨t1, t2, t3, t4, t5⟩ := hT
  simp only at p1 p2 p3 p4 p5 t1 t2 t3 t4 t5
  have e : pstep ch (r, d0, d1, g) = if 48 ≤ ch ∧ ch ≤ 51 then (if r = 1 then (if d0 < 4 then some (1, d0 + 1, d1, dgp g d0 (ch - 48)) else none) else (if d1 < d0 then some (2, d0, d1 + 1, dgp g (4 + d1) (ch - 48)) else none)) else none := by
    unfold pstep
    rw [if_neg h1, if_neg h2]
  rw [e]
  refine MS_of (ls := [lr 39, li (ch - 48), lu]) f4_takesDigit rfl rfl (Nat.le_of_ble_eq_true rfl) ?_
  refine w_aload i4_takesDigit_0 rfl ?_
  refine w_get i4_takesDigit_1 rfl rfl ?_
  refine w_const i4_takesDigit_4 ?_
  refine w_icmpne i4_takesDigit_5 (fun h5 => ?_) (fun h5 => ?_)
  · refine w_aload i4_takesDigit_12 rfl ?_
    refine w_get i4_takesDigit_13 rfl rfl ?_
    refine w_is2 i4_takesDigit_16 ?_
    refine w_iload i4_takesDigit_17 rfl ?_
    refine w_iflt i4_takesDigit_18 (fun h18 => ?_) (fun h18 => ?_)
    · refine w_const i4_takesDigit_34 ?_
      refine w_iret i4_takesDigit_35 (Or.inr ⟨rfl, by omega⟩) ⟨Nat.le_refl _, Nat.le_refl _⟩ ?_
      refine ⟨rfl, _, rfl, Tfr.rf, Or.inr ⟨rfl, ?_⟩⟩
      (repeat' split) <;> first | rfl | omega
    · refine w_iload i4_takesDigit_21 rfl ?_
      refine w_const i4_takesDigit_22 ?_
      refine w_icmpgt i4_takesDigit_23 (fun h23 => ?_) (fun h23 => ?_)
      · refine w_const i4_takesDigit_34 ?_
        refine w_iret i4_takesDigit_35 (Or.inr ⟨rfl, by omega⟩) ⟨Nat.le_refl _, Nat.le_refl _⟩ ?_
        refine ⟨rfl, _, rfl, Tfr.rf, Or.inr ⟨rfl, ?_⟩⟩
        (repeat' split) <;> first | rfl | omega
      · refine w_aload i4_takesDigit_26 rfl ?_
        refine w_get i4_takesDigit_27 rfl rfl ?_
        refine w_iload i4_takesDigit_30 rfl ?_
        refine w_icmplt i4_takesDigit_31 (fun h31 => ?_) (fun h31 => ?_)
        · refine w_aload i4_takesDigit_36 rfl ?_
          refine w_getr i4_takesDigit_37 rfl rfl ?_
          refine w_aload i4_takesDigit_40 rfl ?_
          refine w_get i4_takesDigit_41 rfl rfl ?_
          refine w_const i4_takesDigit_44 ?_
          refine w_isub i4_takesDigit_45 ((by rw [t1]; constructor <;> omega)) ?_
          refine w_const i4_takesDigit_46 ?_
          refine w_imul i4_takesDigit_47 ((by rw [t1]; constructor <;> omega)) ?_
          refine w_aload i4_takesDigit_48 rfl ?_
          refine w_get i4_takesDigit_49 rfl rfl ?_
          refine w_iadd i4_takesDigit_52 ((by rw [t1]; constructor <;> omega)) ?_
          refine w_iload i4_takesDigit_53 rfl ?_
          refine w_iast i4_takesDigit_54 rfl (by rw [t1]; constructor <;> omega) ?_
          refine w_aload i4_takesDigit_55 rfl ?_
          refine w_dup i4_takesDigit_56 ?_
          refine w_get i4_takesDigit_57 rfl rfl ?_
          refine w_const i4_takesDigit_60 ?_
          refine w_iadd i4_takesDigit_61 (by omega) ?_
          refine w_put i4_takesDigit_62 rfl rfl (Or.inl rfl) ?_
          refine w_const i4_takesDigit_65 ?_
          refine w_iret i4_takesDigit_66 (Or.inr ⟨rfl, by omega⟩) ⟨Nat.le_refl _, Nat.le_refl _⟩ ?_
          refine ⟨rfl, _, rfl, ⟨fun a k ha => by simp [upI, ha], by simp [upI], fun a ha => by funext j; simp [upF, ha]⟩, Or.inl ⟨rfl, ?_⟩⟩
          rw [if_pos (by omega)]
          by_cases hr : r = 1
          · rw [if_pos hr, if_pos (by omega)]
            refine ⟨_, rfl, by simp [upI]; omega, fun _ => by simp [upI]; exact t2 hr, fun h => absurd h (by simp), fun j hj => ?_, fun j hj => ?_⟩
            · simp only at hj
              simp only [upF, dgp, true_and]
              have e1 : (I 39 1 - 1) * 4 + I 39 5 = d0 := by rw [t1, t2 hr, hr]; omega
              rw [e1]
              by_cases hjd : j = d0
              · rw [if_pos hjd, if_pos hjd]
              · rw [if_neg hjd, if_neg hjd]; exact t4 j (by omega)
            · simp only at hj
              omega
          · have hr2 : r = 2 := by omega
            obtain ⟨t6, t7⟩ := t3 hr2
            rw [if_neg hr, if_pos (by omega)]
            refine ⟨_, rfl, by simp [upI]; omega, fun h => absurd h (by simp), fun _ => ⟨by simp [upI]; exact t6, by simp [upI]; exact t7⟩, fun j hj => ?_, fun j hj => ?_⟩ <;> simp only at hj <;> simp only [upF, dgp, true_and] <;> (have e1 : (I 39 1 - 1) * 4 + I 39 5 = 4 + d1 := by rw [t1, t7, hr2]; omega) <;> rw [e1]
            · rw [if_neg (by omega), if_neg (by omega)]; exact t4 j (by omega)
            · by_cases hjd : j = d1
              · rw [if_pos (by omega), if_pos (by omega)]
              · rw [if_neg (by omega), if_neg (by omega)]; exact t5 j (by omega)
        · refine w_const i4_takesDigit_34 ?_
          refine w_iret i4_takesDigit_35 (Or.inr ⟨rfl, by omega⟩) ⟨Nat.le_refl _, Nat.le_refl _⟩ ?_
          refine ⟨rfl, _, rfl, Tfr.rf, Or.inr ⟨rfl, ?_⟩⟩
          (repeat' split) <;> first | rfl | omega
  · refine w_const i4_takesDigit_8 ?_
    refine w_goto i4_takesDigit_9 ?_
    refine w_is2 i4_takesDigit_16 ?_
    refine w_iload i4_takesDigit_17 rfl ?_
    refine w_iflt i4_takesDigit_18 (fun h18 => ?_) (fun h18 => ?_)
    · refine w_const i4_takesDigit_34 ?_
      refine w_iret i4_takesDigit_35 (Or.inr ⟨rfl, by omega⟩) ⟨Nat.le_refl _, Nat.le_refl _⟩ ?_
      refine ⟨rfl, _, rfl, Tfr.rf, Or.inr ⟨rfl, ?_⟩⟩
      (repeat' split) <;> first | rfl | omega
    · refine w_iload i4_takesDigit_21 rfl ?_
      refine w_const i4_takesDigit_22 ?_
      refine w_icmpgt i4_takesDigit_23 (fun h23 => ?_) (fun h23 => ?_)
      · refine w_const i4_takesDigit_34 ?_
        refine w_iret i4_takesDigit_35 (Or.inr ⟨rfl, by omega⟩) ⟨Nat.le_refl _, Nat.le_refl _⟩ ?_
        refine ⟨rfl, _, rfl, Tfr.rf, Or.inr ⟨rfl, ?_⟩⟩
        (repeat' split) <;> first | rfl | omega
      · refine w_aload i4_takesDigit_26 rfl ?_
        refine w_get i4_takesDigit_27 rfl rfl ?_
        refine w_iload i4_takesDigit_30 rfl ?_
        refine w_icmplt i4_takesDigit_31 (fun h31 => ?_) (fun h31 => ?_)
        · refine w_aload i4_takesDigit_36 rfl ?_
          refine w_getr i4_takesDigit_37 rfl rfl ?_
          refine w_aload i4_takesDigit_40 rfl ?_
          refine w_get i4_takesDigit_41 rfl rfl ?_
          refine w_const i4_takesDigit_44 ?_
          refine w_isub i4_takesDigit_45 ((by rw [t1]; constructor <;> omega)) ?_
          refine w_const i4_takesDigit_46 ?_
          refine w_imul i4_takesDigit_47 ((by rw [t1]; constructor <;> omega)) ?_
          refine w_aload i4_takesDigit_48 rfl ?_
          refine w_get i4_takesDigit_49 rfl rfl ?_
          refine w_iadd i4_takesDigit_52 ((by rw [t1]; constructor <;> omega)) ?_
          refine w_iload i4_takesDigit_53 rfl ?_
          refine w_iast i4_takesDigit_54 rfl (by rw [t1]; constructor <;> omega) ?_
          refine w_aload i4_takesDigit_55 rfl ?_
          refine w_dup i4_takesDigit_56 ?_
          refine w_get i4_takesDigit_57 rfl rfl ?_
          refine w_const i4_takesDigit_60 ?_
          refine w_iadd i4_takesDigit_61 (by omega) ?_
          refine w_put i4_takesDigit_62 rfl rfl (Or.inl rfl) ?_
          refine w_const i4_takesDigit_65 ?_
          refine w_iret i4_takesDigit_66 (Or.inr ⟨rfl, by omega⟩) ⟨Nat.le_refl _, Nat.le_refl _⟩ ?_
          refine ⟨rfl, _, rfl, ⟨fun a k ha => by simp [upI, ha], by simp [upI], fun a ha => by funext j; simp [upF, ha]⟩, Or.inl ⟨rfl, ?_⟩⟩
          rw [if_pos (by omega)]
          by_cases hr : r = 1
          · rw [if_pos hr, if_pos (by omega)]
            refine ⟨_, rfl, by simp [upI]; omega, fun _ => by simp [upI]; exact t2 hr, fun h => absurd h (by simp), fun j hj => ?_, fun j hj => ?_⟩
            · simp only at hj
              simp only [upF, dgp, true_and]
              have e1 : (I 39 1 - 1) * 4 + I 39 5 = d0 := by rw [t1, t2 hr, hr]; omega
              rw [e1]
              by_cases hjd : j = d0
              · rw [if_pos hjd, if_pos hjd]
              · rw [if_neg hjd, if_neg hjd]; exact t4 j (by omega)
            · simp only at hj
              omega
          · have hr2 : r = 2 := by omega
            obtain ⟨t6, t7⟩ := t3 hr2
            rw [if_neg hr, if_pos (by omega)]
            refine ⟨_, rfl, by simp [upI]; omega, fun h => absurd h (by simp), fun _ => ⟨by simp [upI]; exact t6, by simp [upI]; exact t7⟩, fun j hj => ?_, fun j hj => ?_⟩ <;> simp only at hj <;> simp only [upF, dgp, true_and] <;> (have e1 : (I 39 1 - 1) * 4 + I 39 5 = 4 + d1 := by rw [t1, t7, hr2]; omega) <;> rw [e1]
            · rw [if_neg (by omega), if_neg (by omega)]; exact t4 j (by omega)
            · by_cases hjd : j = d1
              · rw [if_pos (by omega), if_pos (by omega)]
              · rw [if_neg (by omega), if_neg (by omega)]; exact t5 j (by omega)
        · refine w_const i4_takesDigit_34 ?_
          refine w_iret i4_takesDigit_35 (Or.inr ⟨rfl, by omega⟩) ⟨Nat.le_refl _, Nat.le_refl _⟩ ?_
          refine ⟨rfl, _, rfl, Tfr.rf, Or.inr ⟨rfl, ?_⟩⟩
          (repeat' split) <;> first | rfl | omega
theorem s4_takes {d : Nat} {I : IE} {F : FE} {p : PSt} {ch : Int} (hd : 1 ≤ d) (hch : 0 ≤ ch ∧ ch ≤ 255) (hp : pok p) (hT : TR I F p) : MB m4_takes d shX [rv 39, iv ch] I F (fun v I' F' => Tfr I I' F F' ∧ (v = 1 ∧ (∃ q, pstep ch p = some q ∧ TR I' F' q) ∨ v = 0 ∧ pstep ch p = none)) := by
  refine MS_of (ls := [lr 39, li ch]) f4_takes rfl rfl (Nat.le_of_ble_eq_true rfl) ?_
  refine w_iload i4_takes_0 rfl ?_
  refine w_const i4_takes_1 ?_
  refine w_icmpne i4_takes_3 (fun h3 => ?_) (fun h3 => ?_)
  · refine w_iload i4_takes_8 rfl ?_
    refine w_const i4_takes_9 ?_
    refine w_icmpne i4_takes_11 (fun h11 => ?_) (fun h11 => ?_)
    · refine w_aload i4_takes_21 rfl ?_
      refine w_iload i4_takes_22 rfl ?_
      refine w_const i4_takes_23 ?_
      refine w_isub i4_takes_25 (by omega) ?_
      refine w_cVB i4_takes_26 f4_takesDigit v4_takesDigit (s4_takesDigit hp hT h3 h11) rfl rfl (by decide) rfl rfl (Nat.le_of_ble_eq_true rfl) (by omega) (fun v I' F' hq => ?_)
      have hv := hq.2
      refine w_iret i4_takes_29 (Or.inr ⟨rfl, by rcases hv with h | h <;> omega⟩) ⟨Nat.le_refl _, Nat.le_refl _⟩ ?_
      first
      | exact ⟨rfl, v, rfl, hq⟩
      | (subst h11; exact ⟨rfl, v, rfl, hq⟩)
    · refine w_aload i4_takes_14 rfl ?_
      refine w_cVB i4_takes_15 f4_takesRowEnd v4_takesRowEnd (s4_takesRowEnd hp hT) rfl rfl (by decide) rfl rfl (Nat.le_of_ble_eq_true rfl) (by omega) (fun v I' F' hq => ?_)
      have hv := hq.2
      refine w_goto i4_takes_18 ?_
      refine w_iret i4_takes_29 (Or.inr ⟨rfl, by rcases hv with h | h <;> omega⟩) ⟨Nat.le_refl _, Nat.le_refl _⟩ ?_
      first
      | exact ⟨rfl, v, rfl, hq⟩
      | (subst h11; exact ⟨rfl, v, rfl, hq⟩)
  · refine w_const i4_takes_6 ?_
    refine w_iret i4_takes_7 (Or.inr ⟨rfl, by omega⟩) ⟨Nat.le_refl _, Nat.le_refl _⟩ ?_
    refine ⟨rfl, _, rfl, Tfr.rf, Or.inl ⟨rfl, p, ?_, hT⟩⟩
    unfold pstep
    rw [if_pos h3]
theorem s4_digitsNeeded {d : Nat} {I : IE} {F : FE} : MR m4_digitsNeeded d shX [rv 39] I F (if I 39 1 = 1 then 2 else I 39 2) := by
  refine MS_of (ls := [lr 39]) f4_digitsNeeded rfl rfl (Nat.le_of_ble_eq_true rfl) ?_
  refine w_aload i4_digitsNeeded_0 rfl ?_
  refine w_get i4_digitsNeeded_1 rfl rfl ?_
  refine w_const i4_digitsNeeded_4 ?_
  refine w_icmpne i4_digitsNeeded_5 (fun h5 => ?_) (fun h5 => ?_)
  · refine w_aload i4_digitsNeeded_12 rfl ?_
    refine w_get i4_digitsNeeded_13 rfl rfl ?_
    refine w_iret i4_digitsNeeded_16 (Or.inl rfl) ⟨Nat.le_refl _, Nat.le_refl _⟩ ?_
    first
    | (rw [if_neg h5]; exact ⟨rfl, rfl, rfl, rfl⟩)
    | (rw [if_pos h5]; exact ⟨rfl, rfl, rfl, rfl⟩)
  · refine w_const i4_digitsNeeded_8 ?_
    refine w_goto i4_digitsNeeded_9 ?_
    refine w_iret i4_digitsNeeded_16 (Or.inl rfl) ⟨Nat.le_refl _, Nat.le_refl _⟩ ?_
    first
    | (rw [if_neg h5]; exact ⟨rfl, rfl, rfl, rfl⟩)
    | (rw [if_pos h5]; exact ⟨rfl, rfl, rfl, rfl⟩)
/-- what the reading of the first n characters comes to: the error's position, or -1 -/
def PErr (c : Int → Int) (n : Nat) (v : Int) : Prop := (∃ k p, k < n ∧ prun c k = some p ∧ prun c (k + 1) = none ∧ v = (k : Int)) ∨ (∃ p, prun c n = some p ∧ ¬ pend p ∧ v = n) ∨ (∃ p, prun c n = some p ∧ pend p ∧ v = -1)
theorem l4_findError {d n0 : Nat} {Q : PQ} {I : IE} {F : FE} (hd : 2 ≤ d) (hl : 0 ≤ I 39 0 ∧ I 39 0 ≤ 40) (hc : ∀ j, 0 ≤ F 41 j ∧ F 41 j ≤ 255)
    (K1 : ∀ I' F' p, Tfr I I' F F' → prun (F 41) (I 39 0).toNat = some p → TR I' F' p → WS m4_findError d 0 0 n0 Q 0 0 41 [lr 39, li (I 39 0)] [] shX I' F')
    (K0 : ∀ I' F' p (k : Nat), Tfr I I' F F' → k < (I 39 0).toNat → prun (F 41) k = some p → prun (F 41) (k + 1) = none → WS m4_findError d 0 0 n0 Q 0 0 33 [lr 39, li k] [] shX I' F') :
    ∀ (m k : Nat) (I' : IE) (F' : FE) (p : PSt), (k + m : Int) = I 39 0 → Tfr I I' F F' → prun (F 41) k = some p → TR I' F' p → WS m4_findError d 0 0 n0 Q 0 0 12 [lr 39, li k] [] shX I' F' := by
  intro m
  induction m with
  | zero =>
    intro k I' F' p hk hf hr hT
    have e : (k : Int) = I 39 0 := by omega
    have e0 : I' 39 0 = I 39 0 := hf.2.1
    refine w_iload i4_findError_12 rfl ?_
    refine w_aload i4_findError_13 rfl ?_
    refine w_get i4_findError_14 rfl rfl ?_
    refine w_icmpge i4_findError_17 (fun h17 => ?_) (fun h_ => absurd h_ (by omega))
    rw [e]
    exact K1 I' F' p hf (by rw [← hr]; congr 1; omega) hT
  | succ m ih =>
    intro k I' F' p hk hf hr hT
    have e0 : I' 39 0 = I 39 0 := hf.2.1
    have e1 : F' 41 = F 41 := hf.2.2 41 (by decide)
    have es : prun (F 41) (k + 1) = pstep (F 41 k) p := by simp only [prun]; rw [hr]; rfl
    refine w_iload i4_findError_12 rfl ?_
    refine w_aload i4_findError_13 rfl ?_
    refine w_get i4_findError_14 rfl rfl ?_
    refine w_icmpge i4_findError_17 (fun h_ => absurd h_ (by omega)) (fun h17 => ?_)
    refine w_aload i4_findError_20 rfl ?_
    refine w_aload i4_findError_21 rfl ?_
    refine w_getr i4_findError_22 rfl rfl ?_
    refine w_iload i4_findError_25 rfl ?_
    refine w_iald i4_findError_26 rfl (by omega) ?_
    rw [e1]
    refine w_cVB i4_findError_27 f4_takes v4_takes (s4_takes (p := p) (by omega) (hc _) (prun_ok k hr) hT) rfl rfl (by decide) rfl rfl (Nat.le_of_ble_eq_true rfl) (by omega) (fun v I' F' hq => ?_)
    obtain ⟨hf2, hv⟩ := hq
    refine w_ifne i4_findError_30 (fun h30 => ?_) (fun h30 => ?_)
    · refine w_ii1 i4_findError_35 (by omega) ?_
      refine w_goto i4_findError_38 ?_
      obtain ⟨q, hq1, hq2⟩ : ∃ q, pstep (F 41 k) p = some q ∧ TR I' F' q := by
        rcases hv with h | h
        · exact h.2
        · omega
      exact ih (k + 1) I' F' q (by omega) (hf.tr hf2) (by rw [es]; exact hq1) hq2
    · first
      | exact absurd h30 (by omega)
      | (have hn : pstep (F 41 k) p = none := by
           rcases hv with h | h
           · omega
           · exact h.2
         exact K0 _ _ p k (hf.tr hf2) (by omega) hr (by rw [es]; exact hn))
theorem s4_findError {d : Nat} {I : IE} {F : FE} (hd : 2 ≤ d) (hl : 0 ≤ I 39 0 ∧ I 39 0 ≤ 40) (hc : ∀ j, 0 ≤ F 41 j ∧ F 41 j ≤ 255) :
    MB m4_findError d shX [rv 39] I F (fun v I' F' => Tfr I I' F F' ∧ PErr (F 41) (I 39 0).toNat v ∧ (v = -1 → ∃ p, prun (F 41) (I 39 0).toNat = some p ∧ pend p ∧ TR I' F' p ∧ I' 39 2 = p.2.1)) := by
  refine MS_of (ls := [lr 39, lu]) f4_findError rfl rfl (Nat.le_of_ble_eq_true rfl) ?_
  refine w_aload i4_findError_0 rfl ?_
  refine w_const i4_findError_1 ?_
  refine w_put i4_findError_2 rfl rfl (Or.inl rfl) ?_
  refine w_aload i4_findError_5 rfl ?_
  refine w_const i4_findError_6 ?_
  refine w_put i4_findError_7 rfl rfl (Or.inl rfl) ?_
  refine w_const i4_findError_10 ?_
  refine w_is1 i4_findError_11 ?_
  refine l4_findError (I := I) (F := F) hd hl hc (fun I' F' p hf hr hT => ?_) (fun I' F' p k hf hk hr hn => ?_) (I 39 0).toNat 0 _ _ _ (by omega) ⟨fun a k ha => by simp [upI, ha], by simp [upI], fun _ _ => rfl⟩ rfl ⟨by simp [upI], fun _ => by simp [upI], fun h => absurd h (by decide), fun j hj => absurd hj (by simp), fun j hj => absurd hj (by simp)⟩
  · have hpok := prun_ok _ hr
    obtain ⟨r, d0, d1, g⟩ := p
    obtain ⟨p1, p2, p3, p4, p5⟩ := hpok
    have hT' := hT
    obtain ⟨t1, t2, t3, t4, t5⟩ := hT
    simp only at p1 p2 p3 p4 p5 t1 t2 t3 t4 t5
    have e0 : I' 39 0 = I 39 0 := hf.2.1
    have en : ((I 39 0).toNat : Int) = I 39 0 := by omega
    have epe : pend (r, d0, d1, g) = (if r = 1 then 2 ≤ d0 else d0 ≤ d1) := rfl
    have key : I' 39 5 < (if I' 39 1 = 1 then 2 else I' 39 2) ↔ ¬ pend (r, d0, d1, g) := by
      rw [epe, t1]
      rcases p1 with ⟨h, -⟩ | ⟨h, -, -⟩
      · rw [if_pos h, if_pos h, t2 h]; omega
      · rw [if_neg (by omega), if_neg (by omega), (t3 h).1, (t3 h).2]; omega
    refine w_aload i4_findError_41 rfl ?_
    refine w_get i4_findError_42 rfl rfl ?_
    refine w_aload i4_findError_45 rfl ?_
    refine w_cVR i4_findError_46 f4_digitsNeeded v4_digitsNeeded s4_digitsNeeded rfl rfl (by decide) rfl rfl (Nat.le_of_ble_eq_true rfl) (by omega) ?_
    refine w_icmpge i4_findError_49 (fun h49 => ?_) (fun h49 => ?_)
    · refine w_aload i4_findError_57 rfl ?_
      refine w_get i4_findError_58 rfl rfl ?_
      refine w_const i4_findError_61 ?_
      refine w_icmpne i4_findError_62 (fun h62 => ?_) (fun h62 => ?_)
      · refine w_const i4_findError_73 ?_
        refine w_iret i4_findError_74 (Or.inl rfl) ⟨Nat.le_refl _, Nat.le_refl _⟩ ?_
        have hpe : pend (r, d0, d1, g) := Classical.byContradiction fun z => by have := key.mpr z; omega
        first
        | (have hr1 : r = 1 := by omega
           refine ⟨rfl, _, rfl, hf.tr ⟨fun a k ha => by simp [upI, ha], by simp [upI], fun _ _ => rfl⟩, Or.inr (Or.inr ⟨_, hr, hpe, rfl⟩), fun _ => ⟨_, hr, hpe, ⟨by simp [upI]; exact t1, fun h => by simp [upI]; exact t2 h, fun h => absurd h (by simp only; omega), t4, t5⟩, by simp [upI]; exact t2 hr1⟩⟩)
        | (have hr2 : r = 2 := by omega
           exact ⟨rfl, _, rfl, hf, Or.inr (Or.inr ⟨_, hr, hpe, rfl⟩), fun _ => ⟨_, hr, hpe, hT', (t3 hr2).1⟩⟩)
      · refine w_aload i4_findError_65 rfl ?_
        refine w_aload i4_findError_66 rfl ?_
        refine w_get i4_findError_67 rfl rfl ?_
        refine w_put i4_findError_70 rfl rfl (Or.inl rfl) ?_
        refine w_const i4_findError_73 ?_
        refine w_iret i4_findError_74 (Or.inl rfl) ⟨Nat.le_refl _, Nat.le_refl _⟩ ?_
        have hpe : pend (r, d0, d1, g) := Classical.byContradiction fun z => by have := key.mpr z; omega
        first
        | (have hr1 : r = 1 := by omega
           refine ⟨rfl, _, rfl, hf.tr ⟨fun a k ha => by simp [upI, ha], by simp [upI], fun _ _ => rfl⟩, Or.inr (Or.inr ⟨_, hr, hpe, rfl⟩), fun _ => ⟨_, hr, hpe, ⟨by simp [upI]; exact t1, fun h => by simp [upI]; exact t2 h, fun h => absurd h (by simp only; omega), t4, t5⟩, by simp [upI]; exact t2 hr1⟩⟩)
        | (have hr2 : r = 2 := by omega
           exact ⟨rfl, _, rfl, hf, Or.inr (Or.inr ⟨_, hr, hpe, rfl⟩), fun _ => ⟨_, hr, hpe, hT', (t3 hr2).1⟩⟩)
    · refine w_aload i4_findError_52 rfl ?_
      refine w_get i4_findError_53 rfl rfl ?_
      refine w_iret i4_findError_56 (Or.inl rfl) ⟨Nat.le_refl _, Nat.le_refl _⟩ ?_
      refine ⟨rfl, _, rfl, hf, Or.inr (Or.inl ⟨_, hr, key.mp h49, by omega⟩), fun h => absurd h (by omega)⟩
  · refine w_iload i4_findError_33 rfl ?_
    refine w_iret i4_findError_34 (Or.inl rfl) ⟨Nat.le_refl _, Nat.le_refl _⟩ ?_
    exact ⟨rfl, _, rfl, hf, Or.inl ⟨k, p, hk, hr, hn, rfl⟩, fun h => absurd h (by omega)⟩
