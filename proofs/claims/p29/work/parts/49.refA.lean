/-- a state in a row of 178 cells -/
def NB (g : Int → Int) (σ : Sg) : Prop := g 0 = gR σ ∧ g 1 = gC σ ∧ (∀ j, 0 ≤ j ∧ j < 8 → g (2 + j) = gM σ j) ∧ (∀ j, 0 ≤ j ∧ j < 4 → g (10 + j) = gZ σ j) ∧ (∀ j, 0 ≤ j ∧ j < 4 → g (14 + j) = gY σ j) ∧ ∀ k : Nat, k < 160 → g (18 + k) = gA σ k
def AZ (σ : Sg) : Prop := ∀ k : Nat, gk (gM σ) (gC σ) ≤ k → gA σ k = 0
def DS (σ : Sg) (F : FE) : Prop := SV σ ∧ AZ σ ∧ NB (F 1) σ
def DB (σ : Sg) (I : IE) (F : FE) : Prop := I 0 5 = gk (gM σ) (gC σ) ∧ (0 ≤ gk (gM σ) (gC σ) ∧ gk (gM σ) (gC σ) ≤ 15) ∧ (∀ e, 0 ≤ e ∧ e < gk (gM σ) (gC σ) → ∀ j, 0 ≤ j ∧ j < 4 → er F e j = gE (gM σ) (gC σ) e j) ∧ Bas (gM σ) (gC σ) (gk (gM σ) (gC σ), grk (gM σ) (gC σ), gE (gM σ) (gC σ))
def DH (H : Nat × (Nat → Sg)) (I : IE) (F : FE) : Prop := I 0 2 = (H.1 : Int) ∧ H.1 ≤ 8 ∧ ∀ i : Nat, i < H.1 → SV (H.2 i) ∧ AZ (H.2 i) ∧ NB (fun j => F 2 (178 * i + j)) (H.2 i)
def DT (T : Nat × (Int → Int)) (I : IE) (F : FE) : Prop := I 0 4 = (T.1 : Int) ∧ T.1 ≤ 40 ∧ ∀ j, 0 ≤ j ∧ j < (T.1 : Int) → F 3 j = T.2 j
theorem NB.ext {g h : Int → Int} {σ : Sg} (e : ∀ j, 0 ≤ j ∧ j < 178 → h j = g j) (n : NB g σ) : NB h σ := by
  obtain ⟨a1, a2, a3, a4, a5, a6⟩ := n
  exact ⟨by rw [e 0 (by decide), a1], by rw [e 1 (by decide), a2], fun j hj => by rw [e _ (by omega), a3 j hj], fun j hj => by rw [e _ (by omega), a4 j hj], fun j hj => by rw [e _ (by omega), a5 j hj], fun k hk => by rw [e _ (by omega), a6 k hk]⟩
theorem DB.fr {σ : Sg} {I I' : IE} {F F' : FE} (h : DB σ I F) (h0 : I' 0 5 = I 0 5) (h1 : F' 4 = F 4) : DB σ I' F' := by
  obtain ⟨a1, a2, a3, a4⟩ := h
  exact ⟨by rw [h0, a1], a2, fun e he j hj => by rw [← a3 e he j hj]; unfold er; rw [h1], a4⟩
theorem DH.fr {H : Nat × (Nat → Sg)} {I I' : IE} {F F' : FE} (h : DH H I F) (h0 : I' 0 2 = I 0 2) (h1 : F' 2 = F 2) : DH H I' F' := by
  obtain ⟨a1, a2, a3⟩ := h
  exact ⟨by rw [h0, a1], a2, by rw [h1]; exact a3⟩
theorem DT.fr {T : Nat × (Int → Int)} {I I' : IE} {F F' : FE} (h : DT T I F) (h0 : I' 0 4 = I 0 4) (h1 : F' 3 = F 3) : DT T I' F' := by
  obtain ⟨a1, a2, a3⟩ := h
  exact ⟨by rw [h0, a1], a2, by rw [h1]; exact a3⟩
theorem DS.nm {σ : Sg} {F : FE} (h : DS σ F) : NM (gM σ) F := ⟨h.2.2.2.2.1, h.1.2.2.1⟩
theorem SV.hz {σ : Sg} (h : SV σ) : ∀ j, gC σ ≤ j ∧ j < 4 → gM σ j = 0 ∧ gM σ (4 + j) = 0 := fun j hj => by
  have w := h.2.2.2.1
  have c := h.2.1
  exact ⟨w j (by omega), w (4 + j) (by omega)⟩
