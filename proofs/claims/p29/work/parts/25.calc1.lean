/-- what undo brings back: rows, columns, matrix, vector, point, the switches -/
abbrev Sg : Type := Int × Int × (Int → Int) × (Int → Int) × (Int → Int) × (Nat → Int)
def gR (σ : Sg) : Int := σ.1
def gC (σ : Sg) : Int := σ.2.1
def gM (σ : Sg) : Int → Int := σ.2.2.1
def gZ (σ : Sg) : Int → Int := σ.2.2.2.1
def gY (σ : Sg) : Int → Int := σ.2.2.2.2.1
def gA (σ : Sg) : Nat → Int := σ.2.2.2.2.2
/-- all that is told: the state, what was saved (oldest first), the text -/
abbrev Sx : Type := Sg × (Nat × (Nat → Sg)) × (Nat × (Int → Int))
def psh (S : Sx) : Sx := (S.1, (if S.2.1.1 = 8 then (8, fun i => if i < 7 then S.2.1.2 (i + 1) else S.1) else (S.2.1.1 + 1, fun i => if i = S.2.1.1 then S.1 else S.2.1.2 i)), S.2.2)
def SV (σ : Sg) : Prop := (1 ≤ gR σ ∧ gR σ ≤ 2) ∧ (2 ≤ gC σ ∧ gC σ ≤ 4) ∧ (∀ j, 0 ≤ gM σ j ∧ gM σ j ≤ 3) ∧ (∀ j, (j < 0 ∨ 8 ≤ j ∨ gC σ ≤ j % 4 ∨ gR σ ≤ j / 4) → gM σ j = 0) ∧ (∀ j, -30 ≤ gZ σ j ∧ gZ σ j ≤ 30) ∧ (∀ j, (j < 0 ∨ gC σ ≤ j) → gZ σ j = 0) ∧ (∀ j, 0 ≤ gY σ j ∧ gY σ j ≤ 5) ∧ (∀ j, (j < 0 ∨ gC σ ≤ j) → gY σ j = 0) ∧ ∀ k, gA σ k = 0 ∨ gA σ k = 1
/-- a saved state at its place -/
def SI (a : Nat) (σ : Sg) (I : IE) (F : FE) : Prop := I a 0 = gR σ ∧ I a 1 = gC σ ∧ (∀ j, 0 ≤ j ∧ j < 8 → F (a + 1) j = gM σ j) ∧ (∀ j, 0 ≤ j ∧ j < 4 → F (a + 2) j = gZ σ j) ∧ (∀ j, 0 ≤ j ∧ j < 4 → F (a + 3) j = gY σ j) ∧ (0 ≤ I a 5 ∧ I a 5 < 65536) ∧ ∀ k, k < 16 → bt (I a 5) k = gA σ k
theorem SI.fr {a : Nat} {σ : Sg} {I I' : IE} {F F' : FE} (h : SI a σ I F) (h0 : ∀ k, k = 0 ∨ k = 1 ∨ k = 5 → I' a k = I a k) (h1 : ∀ j, 0 ≤ j ∧ j < 8 → F' (a + 1) j = F (a + 1) j) (h2 : ∀ j, 0 ≤ j ∧ j < 4 → F' (a + 2) j = F (a + 2) j) (h3 : ∀ j, 0 ≤ j ∧ j < 4 → F' (a + 3) j = F (a + 3) j) : SI a σ I' F' := by
  obtain ⟨a1, a2, a3, a4, a5, a6, a7⟩ := h
  have e5 := h0 5 (by omega)
  exact ⟨by rw [h0 0 (by omega), a1], by rw [h0 1 (by omega), a2], fun j hj => by rw [h1 j hj, a3 j hj], fun j hj => by rw [h2 j hj, a4 j hj], fun j hj => by rw [h3 j hj, a5 j hj], by rw [e5]; exact a6, by rw [e5]; exact a7⟩
def CS (σ : Sg) (I : IE) (F : FE) : Prop := SV σ ∧ I 1 0 = gR σ ∧ I 1 1 = gC σ ∧ F 2 = gM σ ∧ F 3 = gZ σ ∧ F 4 = gY σ ∧ (0 ≤ I 1 5 ∧ I 1 5 < 65536) ∧ ∀ k, k < 16 → bt (I 1 5) k = gA σ k
def CH (H : Nat × (Nat → Sg)) (I : IE) (F : FE) : Prop := I 5 0 = (H.1 : Int) ∧ H.1 ≤ 8 ∧ (0 ≤ I 5 1 ∧ I 5 1 < 8) ∧ ∀ i j : Nat, i < H.1 → (j : Int) = (I 5 1 + i) % 8 → SV (H.2 i) ∧ SI (7 + 4 * j) (H.2 i) I F
def CT (T : Nat × (Int → Int)) (I : IE) (F : FE) : Prop := I 39 0 = (T.1 : Int) ∧ T.1 ≤ 40 ∧ (∀ j, 0 ≤ j ∧ j < (T.1 : Int) → F 41 j = T.2 j) ∧ ∀ j, 0 ≤ F 41 j ∧ F 41 j ≤ 255
def CB (σ : Sg) (I : IE) (F : FE) : Prop := I 42 3 = gC σ ∧ (0 ≤ I 42 0 ∧ I 42 0 ≤ 15) ∧ (∀ j, -100 ≤ F 43 j ∧ F 43 j ≤ 100) ∧ ∃ b, PVr (gM σ) (gC σ) (I 42 1) b ∧ Bsp (gM σ) (gC σ) b (I 42 0) (en F)
/-- the fiber kept for the point -/
def CP (σ : Sg) (I : IE) (F : FE) : Prop := I 0 9 = 0 ∨ I 0 9 = 1 ∧ Pos (gM σ) (gC σ) ∧ I 50 1 = gC σ ∧ (0 ≤ I 50 0 ∧ I 50 0 ≤ 2048) ∧ LInv (uu (gM σ) (gC σ)) (ul (gM σ) (gC σ)) (dt (gM σ) (gY σ) 0 (gC σ).toNat) (dt (gM σ) (gY σ) 1 (gC σ).toNat) 2097152 (I 50 0) (F 53)
def CI (S : Sx) (I : IE) (F : FE) : Prop := CS S.1 I F ∧ CH S.2.1 I F ∧ CT S.2.2 I F ∧ CB S.1 I F ∧ CP S.1 I F
theorem CS.fr {σ : Sg} {I I' : IE} {F F' : FE} (h : CS σ I F) (h0 : ∀ k, I' 1 k = I 1 k) (h1 : ∀ a, 2 ≤ a ∧ a ≤ 4 → F' a = F a) : CS σ I' F' := by
  obtain ⟨a0, a1, a2, a3, a4, a5, a6, a7⟩ := h
  exact ⟨a0, by rw [h0, a1], by rw [h0, a2], by rw [h1 2 (by omega), a3], by rw [h1 3 (by omega), a4], by rw [h1 4 (by omega), a5], by rw [h0]; exact a6, by rw [h0]; exact a7⟩
theorem CT.fr {T : Nat × (Int → Int)} {I I' : IE} {F F' : FE} (h : CT T I F) (h0 : I' 39 0 = I 39 0) (h1 : F' 41 = F 41) : CT T I' F' := by
  obtain ⟨a0, a1, a2, a3⟩ := h
  exact ⟨by rw [h0, a0], a1, by rw [h1]; exact a2, by rw [h1]; exact a3⟩
theorem CB.fr {σ : Sg} {I I' : IE} {F F' : FE} (h : CB σ I F) (h0 : ∀ k, I' 42 k = I 42 k) (h1 : F' 43 = F 43) : CB σ I' F' := by
  obtain ⟨a0, a1, a2, a3⟩ := h
  have e : en F' = en F := by funext a j; unfold en; rw [h1]
  exact ⟨by rw [h0, a0], by rw [h0]; exact a1, by rw [h1]; exact a2, by rw [h0, h0, e]; exact a3⟩
theorem CP.fr {σ : Sg} {I I' : IE} {F F' : FE} (h : CP σ I F) (h0 : ∀ k, I' 50 k = I 50 k) (h9 : I' 0 9 = I 0 9) (h1 : F' 53 = F 53) : CP σ I' F' := by
  unfold CP at *
  rw [h9, h0, h0, h1]
  exact h
theorem CH.fr {H : Nat × (Nat → Sg)} {I I' : IE} {F F' : FE} (h : CH H I F) (h0 : ∀ a k, 5 ≤ a ∧ a ≤ 38 → I' a k = I a k) (h1 : ∀ a, 5 ≤ a ∧ a ≤ 38 → F' a = F a) : CH H I' F' := by
  obtain ⟨a0, a1, a2, a3⟩ := h
  refine ⟨by rw [h0 5 0 (by omega), a0], a1, by rw [h0 5 1 (by omega)]; exact a2, fun i j hi hj => ?_⟩
  rw [h0 5 1 (by omega)] at hj
  obtain ⟨b1, b2⟩ := a3 i j hi hj
  exact ⟨b1, b2.fr (fun k _ => h0 _ k (by omega)) (fun i _ => by rw [h1 _ (by omega)]) (fun i _ => by rw [h1 _ (by omega)]) (fun i _ => by rw [h1 _ (by omega)])⟩
theorem ci_psh {I I1 : IE} {F F1 : FE} {S : Sx} {c o : Int} {j : Nat} (h : CI S I F) (hc : I 5 0 = 8 ∧ c = 7 ∧ o = (I 5 1 + 1) % 8 ∨ I 5 0 < 8 ∧ c = I 5 0 ∧ o = I 5 1) (hj : (j : Int) = (o + c) % 8) (e0 : I1 5 0 = c + 1) (e1 : I1 5 1 = o) (e2 : ∀ k, k = 0 ∨ k = 1 ∨ k = 5 → I1 (7 + 4 * j) k = I 1 k) (e3 : ∀ a k, a ≠ 5 → a ≠ 7 + 4 * j → I1 a k = I a k)
    (e4 : ∀ i, 0 ≤ i ∧ i < 8 → F1 (8 + 4 * j) i = F 2 i) (e5 : ∀ i, 0 ≤ i ∧ i < 4 → F1 (9 + 4 * j) i = F 3 i) (e6 : ∀ i, 0 ≤ i ∧ i < 4 → F1 (10 + 4 * j) i = F 4 i) (e7 : ∀ a, a ≠ 8 + 4 * j → a ≠ 9 + 4 * j → a ≠ 10 + 4 * j → F1 a = F a) : CI (psh S) (upI I1 0 9 0) F1 := by
  obtain ⟨hS, ⟨h1, h2, h3, h4⟩, hT, hB, hP⟩ := h
  have hj8 : j < 8 := by omega
  have hup : ∀ a k, a ≠ 0 → upI I1 0 9 0 a k = I1 a k := fun a k ha => by simp only [upI]; rw [if_neg (by omega)]
  obtain ⟨s0, s1, s2, s3, s4, s5, s6, s7⟩ := hS
  have new : SI (7 + 4 * j) S.1 (upI I1 0 9 0) F1 := by
    refine ⟨by rw [hup _ _ (by omega), e2 0 (by omega), s1], by rw [hup _ _ (by omega), e2 1 (by omega), s2], fun i hi => ?_, fun i hi => ?_, fun i hi => ?_, by rw [hup _ _ (by omega), e2 5 (by omega)]; exact s6, by rw [hup _ _ (by omega), e2 5 (by omega)]; exact s7⟩
    · rw [show 7 + 4 * j + 1 = 8 + 4 * j by omega, e4 i hi, s3]
    · rw [show 7 + 4 * j + 2 = 9 + 4 * j by omega, e5 i hi, s4]
    · rw [show 7 + 4 * j + 3 = 10 + 4 * j by omega, e6 i hi, s5]
  have old : ∀ i j' : Nat, i < S.2.1.1 → (j' : Int) = (I 5 1 + i) % 8 → j' ≠ j → SV (S.2.1.2 i) ∧ SI (7 + 4 * j') (S.2.1.2 i) (upI I1 0 9 0) F1 := fun i j' hi hj' hne => by
    obtain ⟨b1, b2⟩ := h4 i j' hi hj'
    exact ⟨b1, b2.fr (fun k _ => by rw [hup _ _ (by omega), e3 _ k (by omega) (by omega)]) (fun i _ => by rw [e7 _ (by omega) (by omega) (by omega)]) (fun i _ => by rw [e7 _ (by omega) (by omega) (by omega)]) (fun i _ => by rw [e7 _ (by omega) (by omega) (by omega)])⟩
  refine ⟨CS.fr ⟨s0, s1, s2, s3, s4, s5, s6, s7⟩ (fun k => by rw [hup _ _ (by omega), e3 1 k (by omega) (by omega)]) (fun a ha => e7 a (by omega) (by omega) (by omega)), ?_, hT.fr (by rw [hup _ _ (by omega), e3 39 0 (by omega) (by omega)]) (e7 41 (by omega) (by omega) (by omega)), hB.fr (fun k => by rw [hup _ _ (by omega), e3 42 k (by omega) (by omega)]) (e7 43 (by omega) (by omega) (by omega)), Or.inl (by simp [upI])⟩
  show CH (if S.2.1.1 = 8 then (8, fun i => if i < 7 then S.2.1.2 (i + 1) else S.1) else (S.2.1.1 + 1, fun i => if i = S.2.1.1 then S.1 else S.2.1.2 i)) (upI I1 0 9 0) F1
  by_cases h8 : S.2.1.1 = 8
  · rw [if_pos h8]
    have hc' : c = 7 ∧ o = (I 5 1 + 1) % 8 := by omega
    refine ⟨by rw [hup _ _ (by omega), e0]; show c + 1 = 8; omega, Nat.le_refl 8, by rw [hup _ _ (by omega), e1]; omega, fun i j' hi hj' => ?_⟩
    rw [hup _ _ (by omega), e1] at hj'
    have hi' : i < 8 := hi
    simp only
    by_cases h7 : i < 7
    · rw [if_pos h7]
      exact old (i + 1) j' (by omega) (by omega) (by omega)
    · rw [if_neg h7, show j' = j by omega]
      exact ⟨s0, new⟩
  · rw [if_neg h8]
    have hc' : c = I 5 0 ∧ o = I 5 1 := by omega
    refine ⟨by rw [hup _ _ (by omega), e0]; show c + 1 = ((S.2.1.1 + 1 : Nat) : Int); omega, by show S.2.1.1 + 1 ≤ 8; omega, by rw [hup _ _ (by omega), e1]; omega, fun i j' hi hj' => ?_⟩
    rw [hup _ _ (by omega), e1] at hj'
    have hi' : i < S.2.1.1 + 1 := hi
    simp only
    by_cases h7 : i = S.2.1.1
    · rw [if_pos h7, show j' = j by omega]
      exact ⟨s0, new⟩
    · rw [if_neg h7]
      exact old i j' (by omega) (by omega) (by omega)
theorem s7_asNumber {d : Nat} {I : IE} {F : FE} {x : Int} (hx : x = 0 ∨ x = 1) : MR m7_asNumber d shX [iv x] I F x := by
  refine MS_of (ls := [li x]) f7_asNumber rfl rfl (Nat.le_of_ble_eq_true rfl) ?_
  rcases hx with rfl | rfl
  · refine w_iload i7_asNumber_0 rfl ?_
    refine w_ifeq i7_asNumber_1 (fun h1 => ?_) (fun h_ => absurd h_ (by omega))
    refine w_const i7_asNumber_8 ?_
    refine w_iret i7_asNumber_9 (Or.inl rfl) ⟨Nat.le_refl _, Nat.le_refl _⟩ ?_
    exact ⟨rfl, rfl, rfl, rfl⟩
  · refine w_iload i7_asNumber_0 rfl ?_
    refine w_ifeq i7_asNumber_1 (fun h_ => absurd h_ (by omega)) (fun h1 => ?_)
    refine w_const i7_asNumber_4 ?_
    refine w_goto i7_asNumber_5 ?_
    refine w_iret i7_asNumber_9 (Or.inl rfl) ⟨Nat.le_refl _, Nat.le_refl _⟩ ?_
    exact ⟨rfl, rfl, rfl, rfl⟩
theorem s7_isRow {d : Nat} {I : IE} {F : FE} {x : Int} : MP m7_isRow d shX [rv 0, iv x] I F (tf (0 ≤ x ∧ x < I 1 0)) := by
  refine MS_of (ls := [lr 0, li x]) f7_isRow rfl rfl (Nat.le_of_ble_eq_true rfl) ?_
  refine w_iload i7_isRow_0 rfl ?_
  refine w_iflt i7_isRow_1 (fun h1 => ?_) (fun h1 => ?_)
  · refine w_const i7_isRow_19 ?_
    refine w_iret i7_isRow_20 (Or.inr ⟨rfl, by omega⟩) ⟨Nat.le_refl _, Nat.le_refl _⟩ ?_
    first
    | exact ⟨rfl, 1, rfl, Or.inl ⟨rfl, by omega⟩, rfl, rfl⟩
    | exact ⟨rfl, 0, rfl, Or.inr ⟨rfl, by omega⟩, rfl, rfl⟩
  · refine w_iload i7_isRow_4 rfl ?_
    refine w_aload i7_isRow_5 rfl ?_
    refine w_getr i7_isRow_6 rfl rfl ?_
    refine w_get i7_isRow_9 rfl rfl ?_
    refine w_icmpge i7_isRow_12 (fun h12 => ?_) (fun h12 => ?_)
    · refine w_const i7_isRow_19 ?_
      refine w_iret i7_isRow_20 (Or.inr ⟨rfl, by omega⟩) ⟨Nat.le_refl _, Nat.le_refl _⟩ ?_
      first
      | exact ⟨rfl, 1, rfl, Or.inl ⟨rfl, by omega⟩, rfl, rfl⟩
      | exact ⟨rfl, 0, rfl, Or.inr ⟨rfl, by omega⟩, rfl, rfl⟩
    · refine w_const i7_isRow_15 ?_
      refine w_goto i7_isRow_16 ?_
      refine w_iret i7_isRow_20 (Or.inr ⟨rfl, by omega⟩) ⟨Nat.le_refl _, Nat.le_refl _⟩ ?_
      first
      | exact ⟨rfl, 1, rfl, Or.inl ⟨rfl, by omega⟩, rfl, rfl⟩
      | exact ⟨rfl, 0, rfl, Or.inr ⟨rfl, by omega⟩, rfl, rfl⟩
theorem s7_isColumn {d : Nat} {I : IE} {F : FE} {x : Int} : MP m7_isColumn d shX [rv 0, iv x] I F (tf (0 ≤ x ∧ x < I 1 1)) := by
  refine MS_of (ls := [lr 0, li x]) f7_isColumn rfl rfl (Nat.le_of_ble_eq_true rfl) ?_
  refine w_iload i7_isColumn_0 rfl ?_
  refine w_iflt i7_isColumn_1 (fun h1 => ?_) (fun h1 => ?_)
  · refine w_const i7_isColumn_19 ?_
    refine w_iret i7_isColumn_20 (Or.inr ⟨rfl, by omega⟩) ⟨Nat.le_refl _, Nat.le_refl _⟩ ?_
    first
    | exact ⟨rfl, 1, rfl, Or.inl ⟨rfl, by omega⟩, rfl, rfl⟩
    | exact ⟨rfl, 0, rfl, Or.inr ⟨rfl, by omega⟩, rfl, rfl⟩
  · refine w_iload i7_isColumn_4 rfl ?_
    refine w_aload i7_isColumn_5 rfl ?_
    refine w_getr i7_isColumn_6 rfl rfl ?_
    refine w_get i7_isColumn_9 rfl rfl ?_
    refine w_icmpge i7_isColumn_12 (fun h12 => ?_) (fun h12 => ?_)
    · refine w_const i7_isColumn_19 ?_
      refine w_iret i7_isColumn_20 (Or.inr ⟨rfl, by omega⟩) ⟨Nat.le_refl _, Nat.le_refl _⟩ ?_
      first
      | exact ⟨rfl, 1, rfl, Or.inl ⟨rfl, by omega⟩, rfl, rfl⟩
      | exact ⟨rfl, 0, rfl, Or.inr ⟨rfl, by omega⟩, rfl, rfl⟩
    · refine w_const i7_isColumn_15 ?_
      refine w_goto i7_isColumn_16 ?_
      refine w_iret i7_isColumn_20 (Or.inr ⟨rfl, by omega⟩) ⟨Nat.le_refl _, Nat.le_refl _⟩ ?_
      first
      | exact ⟨rfl, 1, rfl, Or.inl ⟨rfl, by omega⟩, rfl, rfl⟩
      | exact ⟨rfl, 0, rfl, Or.inr ⟨rfl, by omega⟩, rfl, rfl⟩
theorem s7_isElement {d : Nat} {I : IE} {F : FE} {x : Int} : MP m7_isElement d shX [rv 0, iv x] I F (tf (0 ≤ x ∧ x < I 42 0)) := by
  refine MS_of (ls := [lr 0, li x]) f7_isElement rfl rfl (Nat.le_of_ble_eq_true rfl) ?_
  refine w_iload i7_isElement_0 rfl ?_
  refine w_iflt i7_isElement_1 (fun h1 => ?_) (fun h1 => ?_)
  · refine w_const i7_isElement_19 ?_
    refine w_iret i7_isElement_20 (Or.inr ⟨rfl, by omega⟩) ⟨Nat.le_refl _, Nat.le_refl _⟩ ?_
    first
    | exact ⟨rfl, 1, rfl, Or.inl ⟨rfl, by omega⟩, rfl, rfl⟩
    | exact ⟨rfl, 0, rfl, Or.inr ⟨rfl, by omega⟩, rfl, rfl⟩
  · refine w_iload i7_isElement_4 rfl ?_
    refine w_aload i7_isElement_5 rfl ?_
    refine w_getr i7_isElement_6 rfl rfl ?_
    refine w_get i7_isElement_9 rfl rfl ?_
    refine w_icmpge i7_isElement_12 (fun h12 => ?_) (fun h12 => ?_)
    · refine w_const i7_isElement_19 ?_
      refine w_iret i7_isElement_20 (Or.inr ⟨rfl, by omega⟩) ⟨Nat.le_refl _, Nat.le_refl _⟩ ?_
      first
      | exact ⟨rfl, 1, rfl, Or.inl ⟨rfl, by omega⟩, rfl, rfl⟩
      | exact ⟨rfl, 0, rfl, Or.inr ⟨rfl, by omega⟩, rfl, rfl⟩
    · refine w_const i7_isElement_15 ?_
      refine w_goto i7_isElement_16 ?_
      refine w_iret i7_isElement_20 (Or.inr ⟨rfl, by omega⟩) ⟨Nat.le_refl _, Nat.le_refl _⟩ ?_
      first
      | exact ⟨rfl, 1, rfl, Or.inl ⟨rfl, by omega⟩, rfl, rfl⟩
      | exact ⟨rfl, 0, rfl, Or.inr ⟨rfl, by omega⟩, rfl, rfl⟩
theorem s7_save {d : Nat} {I : IE} {F : FE} {S : Sx} (hd : 3 ≤ d) (h : CI S I F) : MU m7_save d shX [rv 0] I F (fun I' F' => CI (psh S) I' F' ∧ I' 0 9 = 0) := by
  obtain ⟨hS, hH, hT, hB, hP⟩ := h
  obtain ⟨h1, h2, h3, h4⟩ := hH
  refine MS_of (ls := [lr 0]) f7_save rfl rfl (Nat.le_of_ble_eq_true rfl) ?_
  refine w_aload i7_save_0 rfl ?_
  refine w_getr i7_save_1 rfl rfl ?_
  refine w_aload i7_save_4 rfl ?_
  refine w_getr i7_save_5 rfl rfl ?_
  refine w_cVU i7_save_8 f3_save v3_save (s3_save (by omega) (by omega) h3) rfl rfl (by decide) rfl rfl (Nat.le_of_ble_eq_true rfl) (by omega) (fun I1 F1 hq => ?_)
  refine w_aload i7_save_11 rfl ?_
  refine w_const i7_save_12 ?_
  refine w_put i7_save_13 rfl rfl (Or.inr ⟨rfl, by omega⟩) ?_
  refine w_vret i7_save_16 rfl ⟨Nat.le_refl _, Nat.le_refl _⟩ ?_
  refine ⟨rfl, rfl, ?_, rfl⟩
  obtain ⟨c, o, j, hc, hj, e0, e1, e2, e3, e4, e5, e6, e7⟩ := hq
  exact ci_psh ⟨hS, ⟨h1, h2, h3, h4⟩, hT, hB, hP⟩ hc hj e0 e1 e2 e3 e4 e5 e6 e7
