/-- the law's marks f on one class: base b, begun at s, what stood before: g; r rounds done -/
def MK (m : Int) (Ad : Int → Int → Prop) (g : Int → Int) (s b r : Int) (f : Int → Int) : Prop :=
  (∀ j, 0 ≤ j ∧ j < m → 0 ≤ g j → f j = g j) ∧ (∀ j, 0 ≤ j ∧ j < m → g j < 0 → f j = -1 ∨ b ≤ f j ∧ f j ≤ b + r) ∧ f s = b ∧
  (∀ j, 0 ≤ j ∧ j < m → g j < 0 → 0 ≤ f j → j = s ∨ ∃ i, (0 ≤ i ∧ i < m) ∧ g i < 0 ∧ 0 ≤ f i ∧ Ad i j ∧ f j = f i + 1)
/-- the marks before: closed, -1 where there is none, below the base -/
def GB (m : Int) (Ad : Int → Int → Prop) (g : Int → Int) (b : Int) : Prop := (∀ j, 0 ≤ j ∧ j < m → g j = -1 ∨ 0 ≤ g j ∧ g j < b) ∧ ∀ i j, (0 ≤ i ∧ i < m) → (0 ≤ j ∧ j < m) → 0 ≤ g i → Ad i j → 0 ≤ g j
/-- those with a mark below x have marked all theirs -/
def DN (m : Int) (Ad : Int → Int → Prop) (g : Int → Int) (b : Int) (P : Int → Prop) (f : Int → Int) : Prop := ∀ i, 0 ≤ i ∧ i < m → g i < 0 → b ≤ f i → P i → ∀ j, 0 ≤ j ∧ j < m → Ad i j → 0 ≤ f j ∧ f j ≤ f i + 1
theorem MK.oneR {m : Int} {Ad : Int → Int → Prop} {g : Int → Int} {s b r i j : Int} {f : Int → Int} (h : MK m Ad g s b (r + 1) f) (hG : GB m Ad g b) (hs : g s < 0) (hb : 0 ≤ b) (hi : 0 ≤ i ∧ i < m) (hgi : g i < 0) (hfi : f i = b + r) (hj : 0 ≤ j ∧ j < m) (hfj : f j < 0) (ha : Ad i j) (hr : 0 ≤ r) : MK m Ad g s b (r + 1) (fun k => if k = j then f i + 1 else f k) := by
  obtain ⟨h1, h2, h3, h4⟩ := h
  have hgj : g j < 0 := by
    rcases hG.1 j hj with e | e
    · omega
    · have := h1 j hj e.1; omega
  refine ⟨fun k hk h0 => ?_, fun k hk h0 => ?_, ?_, fun k hk h0 hf => ?_⟩
  · dsimp only
    rw [if_neg (fun z => by rw [z] at h0; omega)]; exact h1 k hk h0
  · dsimp only
    by_cases c : k = j
    · rw [if_pos c]; omega
    · rw [if_neg c]
      rcases h2 k hk h0 with e | e
      · exact .inl e
      · exact .inr (by omega)
  · dsimp only
    by_cases c : s = j
    · rw [← c] at hfj; omega
    · rw [if_neg c]; exact h3
  · dsimp only at hf ⊢
    by_cases c : k = j
    · refine .inr ⟨i, hi, hgi, ?_, by rw [c]; exact ha, ?_⟩
      · rw [if_neg (fun z => by rw [z] at hfi; omega)]; omega
      · rw [if_pos c, if_neg (fun z => by rw [z] at hfi; omega)]
    · rw [if_neg c] at hf ⊢
      rcases h4 k hk h0 hf with e | ⟨w, w1, w2, w3, w4, w5⟩
      · exact .inl e
      · have : ¬ w = j := fun z => by rw [z] at w3; omega
        exact .inr ⟨w, w1, w2, by rw [if_neg this]; exact w3, w4, by rw [if_neg this]; exact w5⟩
/-- all marks of a class come one after the other -/
theorem MK.chain {m : Int} {Ad : Int → Int → Prop} {g : Int → Int} {s b r : Int} {f : Int → Int} (h : MK m Ad g s b r f) (hb : 0 ≤ b) (hsm : 0 ≤ s ∧ s < m) : ∀ (k : Nat) (j : Int), (0 ≤ j ∧ j < m) → g j < 0 → f j = b + k → ∀ t : Nat, t ≤ k → ∃ i, (0 ≤ i ∧ i < m) ∧ f i = b + t := by
  intro k
  induction k with
  | zero =>
    intro j hj hg hf t ht
    exact ⟨j, hj, by rw [hf]; omega⟩
  | succ k ih =>
    intro j hj hg hf t ht
    by_cases c : t = k + 1
    · exact ⟨j, hj, by rw [hf, c]⟩
    · rcases h.2.2.2 j hj hg (by omega) with e | ⟨i, i1, i2, i3, i4, i5⟩
      · rw [e, h.2.2.1] at hf; omega
      · exact ih i i1 i2 (by omega) t (by omega)
theorem MK.top {m : Int} {Ad : Int → Int → Prop} {g : Int → Int} {s b r : Int} {f : Int → Int} (h : MK m Ad g s b r f) (hb : 0 ≤ b) (hsm : 0 ≤ s ∧ s < m) {j : Int} (hj : 0 ≤ j ∧ j < m) (hg : g j < 0) (hf : b ≤ f j) : f j < b + m := by
  apply Classical.byContradiction
  intro hc
  have ch := h.chain hb hsm (f j - b).toNat j hj hg (by omega)
  have ch2 : ∀ t : Nat, ∃ i : Nat, t ≤ m.toNat → i < m.toNat ∧ f i = b + t := fun t => by
    by_cases c : t ≤ m.toNat
    · obtain ⟨i, i1, i2⟩ := ch t (by omega)
      exact ⟨i.toNat, fun _ => ⟨by omega, by rw [show ((i.toNat : Nat) : Int) = i by omega]; exact i2⟩⟩
    · exact ⟨0, fun z => absurd z c⟩
  obtain ⟨φ, hφ⟩ := Classical.skolem.1 ch2
  have := php m.toNat (m.toNat + 1) φ (fun t ht => (hφ t (by omega)).1) (fun a c hac hcm e => by
    have x := (hφ a (by omega)).2
    have y := (hφ c (by omega)).2
    rw [e] at x
    omega)
  omega
/-- a class is through: its marks -/
theorem MK.fin {m : Int} {Ad : Int → Int → Prop} {g : Int → Int} {s b : Int} {f : Int → Int} (h : MK m Ad g s b m f) (hG : GB m Ad g b) (hb : 0 ≤ b) (hsm : 0 ≤ s ∧ s < m) (hs : g s < 0) (hD : DN m Ad g b (fun i => f i < b + m) f) (hsy : ∀ i j, (0 ≤ i ∧ i < m) → (0 ≤ j ∧ j < m) → Ad i j → Ad j i) :
    (∀ j, 0 ≤ j ∧ j < m → (0 ≤ f j ↔ 0 ≤ g j ∨ Re m Ad s j)) ∧ (∀ j, 0 ≤ j ∧ j < m → g j < 0 → f j = -1 ∨ b ≤ f j ∧ f j < b + m) ∧ (∀ i j, (0 ≤ i ∧ i < m) → (0 ≤ j ∧ j < m) → g i < 0 → 0 ≤ f i → Ad i j → 0 ≤ f j ∧ f j ≤ f i + 1) := by
  have e : ∀ j, 0 ≤ j ∧ j < m → g j < 0 → f j = -1 ∨ b ≤ f j ∧ f j < b + m := fun j hj hg => by
    rcases h.2.1 j hj hg with c | c
    · exact .inl c
    · exact .inr ⟨c.1, h.top hb hsm hj hg c.1⟩
  have st : ∀ i j, (0 ≤ i ∧ i < m) → (0 ≤ j ∧ j < m) → g i < 0 → 0 ≤ f i → Ad i j → 0 ≤ f j ∧ f j ≤ f i + 1 := fun i j hi hj hg h0 ha => by
    rcases e i hi hg with c | c
    · omega
    · exact hD i hi hg c.1 c.2 j hj ha
  refine ⟨fun j hj => ⟨fun h0 => ?_, fun h0 => ?_⟩, e, st⟩
  · by_cases hg : 0 ≤ g j
    · exact .inl hg
    · refine .inr ?_
      have key : ∀ (k : Nat) (j : Int), (0 ≤ j ∧ j < m) → g j < 0 → f j = b + k → Re m Ad s j := by
        intro k
        induction k with
        | zero =>
          intro j hj hg hf
          rcases h.2.2.2 j hj hg (by omega) with c | ⟨i, i1, i2, i3, i4, i5⟩
          · rw [c]; exact Re.rf s
          · rcases e i i1 i2 with c | c <;> omega
        | succ k ih =>
          intro j hj hg hf
          rcases h.2.2.2 j hj hg (by omega) with c | ⟨i, i1, i2, i3, i4, i5⟩
          · rw [c]; exact Re.rf s
          · exact (ih i i1 i2 (by omega)).tr (Re.st i1 hj i4)
      rcases e j hj (by omega) with c | c
      · omega
      · exact key (f j - b).toNat j hj (by omega) (by omega)
  · rcases h0 with h0 | h0
    · rw [h.1 j hj h0]; exact h0
    · have := h0 (fun j => 0 ≤ f j ∧ (0 ≤ j ∧ j < m) ∧ g j < 0) ⟨by rw [h.2.2.1]; exact hb, hsm, hs⟩ (fun q j hq hj hP ha => ⟨(st q j hq hj hP.2.2 hP.1 ha).1, hj, by
        rcases hG.1 j hj with c | c
        · omega
        · have := hG.2 j q hj hq c.1 (hsy q j hq hj ha)
          have := hP.2.2
          omega⟩)
      exact this.1
/-- what stands between the classes: c classes are through -/
def WI (m : Nat) (Ad : Int → Int → Prop) (own c done : Int) (f : Int → Int) : Prop :=
  0 ≤ c ∧ done = cP (fun j => 0 ≤ f j) m ∧ c = cP (fun k => LR m Ad k ∧ 0 ≤ f k) m ∧ (c = 0 → ∀ j, 0 ≤ j ∧ j < (m : Int) → f j = -1) ∧
  (∀ j, 0 ≤ j ∧ j < (m : Int) → f j = -1 ∨ 1000 ≤ f j ∧ f j < 1000 * (c + 1)) ∧ (∀ i j, (0 ≤ i ∧ i < (m : Int)) → (0 ≤ j ∧ j < (m : Int)) → 0 ≤ f i → Ad i j → 0 ≤ f j) ∧
  (1 ≤ c → DsG m Ad own (fun j => if 0 ≤ f j ∧ f j < 2000 then f j - 1000 else -1))
theorem WI.next {m : Nat} {Ad : Int → Int → Prop} {own c done s : Int} {g f : Int → Int} (h : WI m Ad own c done g) (hm : (m : Int) ≤ 100) (hown : 0 ≤ own ∧ own < (m : Int)) (hsm : 0 ≤ s ∧ s < (m : Int)) (hs : g s < 0) (h0 : c = 0 → s = own) (hsy : ∀ i j, (0 ≤ i ∧ i < (m : Int)) → (0 ≤ j ∧ j < (m : Int)) → Ad i j → Ad j i) (hf : MK m Ad g s (1000 * (c + 1)) m f) (hD : DN m Ad g (1000 * (c + 1)) (fun i => f i < 1000 * (c + 1) + m) f) {done' : Int} (hd : done' = cP (fun j => 0 ≤ f j) m) : WI m Ad own (c + 1) done' f := by
  obtain ⟨w1, w2, w3, w4, w5, w6, w7⟩ := h
  have hG : GB m Ad g (1000 * (c + 1)) := ⟨fun j hj => by rcases w5 j hj with e | e <;> omega, w6⟩
  obtain ⟨f1, f2, f3⟩ := hf.fin hG (by omega) hsm hs hD hsy
  have clo : ∀ i j, (0 ≤ i ∧ i < (m : Int)) → (0 ≤ j ∧ j < (m : Int)) → 0 ≤ f i → Ad i j → 0 ≤ f j := fun i j hi hj h0 ha => by
    rcases w5 i hi with e | e
    · exact (f3 i j hi hj (by omega) h0 ha).1
    · have gj := w6 i j hi hj (by omega) ha
      rw [hf.1 j hj gj]; exact gj
  refine ⟨by omega, hd, ?_, fun z => by omega, fun j hj => ?_, clo, fun _ => ?_⟩
  · rw [w3]
    exact (lr_more hsy hsm w6 (by omega) f1).symm
  · rcases w5 j hj with e | e
    · rcases f2 j hj (by omega) with e2 | e2
      · exact .inl e2
      · exact .inr (by omega)
    · rw [hf.1 j hj (by omega)]; exact .inr (by omega)
  · by_cases c0 : c = 0
    · have e := w4 c0
      have so := h0 c0
      subst so
      subst c0
      have lo : ∀ j, 0 ≤ j ∧ j < (m : Int) → f j = -1 ∨ 1000 ≤ f j ∧ f j < 1000 + m := fun j hj => by
        rcases f2 j hj (by have := e j hj; omega) with c | c
        · exact .inl c
        · exact .inr (by omega)
      have v : ∀ j, 0 ≤ j ∧ j < (m : Int) → (if 0 ≤ f j ∧ f j < 2000 then f j - 1000 else -1) = (if 0 ≤ f j then f j - 1000 else -1) := fun j hj => by
        rcases lo j hj with c | c
        · rw [if_neg (by omega), if_neg (by omega)]
        · rw [if_pos (by omega), if_pos (by omega)]
      refine ⟨?_, fun i j hi hj h0 ha => ?_, fun j hj h0 => ?_⟩
      · dsimp only
        have := hf.2.2.1
        rw [this]; rfl
      · dsimp only at h0 ⊢
        rw [v i hi] at h0 ⊢
        rw [v j hj]
        have fi : 0 ≤ f i := by
          apply Classical.byContradiction
          intro z
          rw [if_neg z] at h0; omega
        have := f3 i j hi hj (by have := e i hi; omega) fi ha
        rcases lo i hi with c | c
        · omega
        · rcases lo j hj with c' | c'
          · omega
          · rw [if_pos this.1, if_pos fi]; omega
      · dsimp only at h0 ⊢
        rw [v j hj] at h0
        have fj : 0 ≤ f j := by
          apply Classical.byContradiction
          intro z
          rw [if_neg z] at h0; omega
        rcases hf.2.2.2 j hj (by have := e j hj; omega) fj with z | ⟨i, i1, i2, i3, i4, i5⟩
        · exact .inl z
        · refine .inr ⟨i, i1, ?_, i4, ?_⟩
          · rw [v i i1, if_pos i3]
            rcases lo i i1 with c | c <;> omega
          · rw [v i i1, v j hj, if_pos i3, if_pos fj]; omega
    · have D := w7 (by omega)
      have same : ∀ j, 0 ≤ j ∧ j < (m : Int) → (if 0 ≤ f j ∧ f j < 2000 then f j - 1000 else -1) = (if 0 ≤ g j ∧ g j < 2000 then g j - 1000 else -1) := fun j hj => by
        rcases w5 j hj with e | e
        · rw [if_neg (show ¬ (0 ≤ g j ∧ g j < 2000) by omega)]
          rcases f2 j hj (by omega) with e2 | e2
          · rw [if_neg (by omega)]
          · rw [if_neg (by omega)]
        · rw [hf.1 j hj (by omega)]
      refine ⟨?_, fun i j hi hj h0 ha => ?_, fun j hj h0 => ?_⟩
      · have d1 := D.1
        dsimp only at d1 ⊢
        rw [same own hown]; exact d1
      · dsimp only at h0 ⊢
        rw [same i hi] at h0 ⊢
        rw [same j hj]
        exact D.2.1 i j hi hj h0 ha
      · dsimp only at h0 ⊢
        rw [same j hj] at h0
        rcases D.2.2 j hj h0 with z | ⟨i, i1, i2, i3, i4⟩
        · exact .inl z
        · exact .inr ⟨i, i1, by rw [same i i1]; exact i2, i3, by rw [same i i1, same j hj]; exact i4⟩
