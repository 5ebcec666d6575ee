theorem DB.E {σ : Sg} {I : IE} {F : FE} (h : DB σ I F) : ∀ e, 0 ≤ e ∧ e < gk (gM σ) (gC σ) → (∀ j, 0 ≤ j ∧ j < gC σ → -9 ≤ gE (gM σ) (gC σ) e j ∧ gE (gM σ) (gC σ) e j ≤ 9) ∧ (∀ j, gC σ ≤ j ∧ j < 4 → gE (gM σ) (gC σ) e j = 0) ∧ KerF (gM σ) (gC σ) (gE (gM σ) (gC σ) e) ∧ ∀ j, 0 ≤ j ∧ j < 4 → F 4 (4 * e + j) = gE (gM σ) (gC σ) e j ∧ -9 ≤ gE (gM σ) (gC σ) e j ∧ gE (gM σ) (gC σ) e j ≤ 9 := fun e he => by
  obtain ⟨h1, h2, h3, h0, b, hP, hB⟩ := h
  have b9 := hP.b9
  have c := hB.1 e he
  refine ⟨fun j hj => by have t : -b ≤ gE (gM σ) (gC σ) e j ∧ gE (gM σ) (gC σ) e j ≤ b := c.2.1 j hj; omega, c.2.2.2, c.1, fun j hj => ⟨h3 e he j hj, c.b9 (by omega) j hj⟩⟩
theorem dt_add {M u v : Int → Int} {r : Int} : ∀ k, dt M (fun j => u j + v j) r k = dt M u r k + dt M v r k
  | 0 => rfl
  | k + 1 => by simp only [dt]; rw [dt_add k, Int.mul_add]; omega
theorem nx_in {M y : Int → Int} {n q c : Int} (hn : 2 ≤ n ∧ n ≤ 4) (hpos : Pos M n) (h : FibP M n y (fbm M n y, fbf M n y)) (hq : 0 ≤ q ∧ q < fbm M n y) (hk : KerF M n (cvec (gE M n) c)) (h0 : ∀ i, 0 ≤ i ∧ i < n → 0 ≤ fy M n y q i + cvec (gE M n) c i ∧ fy M n y q i + cvec (gE M n) c i ≤ 127) : (0 ≤ nxo M n y q c ∧ nxo M n y q c < fbm M n y) ∧ nxo M n y q c = ixo M n y (fun i => fy M n y q i + cvec (gE M n) c i) := by
  have e : ∀ i, 0 ≤ i ∧ i < n → fbY M n y q (i + (4 - n)) + cvec (gE M n) c i = fy M n y q i + cvec (gE M n) c i := fun i hi => by unfold fy; rw [if_pos hi.2]
  have nk := NasP_ext (fun _ _ => rfl) e (nxo_ok M n y q c)
  rcases nk with ⟨-, i, i0, i1, i2⟩ | ⟨-, g⟩
  · have := h0 i ⟨i0, i1⟩
    have i2' : fy M n y q i + cvec (gE M n) c i < 0 := i2
    omega
  · have u := idxP_uniq h.2.1 g (ixo_ok M n y (fun i => fy M n y q i + cvec (gE M n) c i))
    refine ⟨?_, u⟩
    rcases g with ⟨g1, g2, -⟩ | ⟨-, g⟩
    · exact ⟨g1, g2⟩
    · exfalso
      have rp := (row_pk hn h hq).2.2.2
      have fw : FSn M n (dt M y 0 n.toNat) (dt M y 1 n.toNat) (fun i => fy M n y q i + cvec (gE M n) c i) := ⟨h0, by rw [dt_add, rp.2.1, hk.1]; omega, by rw [dt_add, rp.2.2, hk.2]; omega⟩
      have f := fw.fs hn hpos
      have b := f.1
      have b0 := b 0 (by decide); have b1 := b 1 (by decide); have b2 := b 2 (by decide)
      obtain ⟨i, i0, i1, i2⟩ := (h.2.2 (cd4 (shf n (fun i => fy M n y q i + cvec (gE M n) c i)))).mpr ⟨_, f, by unfold pre3; omega, rfl⟩
      exact g i ⟨i0, i1⟩ i2
/-- the distances as they stand: those not reached are -1009 -/
def fD (x : Int) : Int := if x < 0 then -1009 else x
def WRm (m : Nat) (st : BS) (I : IE) (F : FE) : Prop := (∀ j : Int, 0 ≤ j ∧ j < m → F 12 j = fD (st.1 j)) ∧ I 0 19 = st.2.length ∧ ∀ i : Nat, i < st.2.length → F 13 i = st.2.getD i 0
/-- what a search changes -/
def Sfr (I I' : IE) (F F' : FE) : Prop := (∀ a k, (a ≠ 0 ∨ k ≠ 19) → I' a k = I a k) ∧ ∀ a, a ≠ 11 → a ≠ 12 → a ≠ 13 → F' a = F a
theorem Sfr.rf {I : IE} {F : FE} : Sfr I I F F := ⟨fun _ _ _ => rfl, fun _ _ _ _ => rfl⟩
theorem Sfr.tr {I I1 I2 : IE} {F F1 F2 : FE} (h : Sfr I I1 F F1) (g : Sfr I1 I2 F1 F2) : Sfr I I2 F F2 := ⟨fun a k ha => (g.1 a k ha).trans (h.1 a k ha), fun a h1 h2 h3 => (g.2 a h1 h2 h3).trans (h.2 a h1 h2 h3)⟩
/-- all that a search needs -/
def SrH (S : Sx) (y : Int → Int) (I : IE) (F : FE) : Prop := DB S.1 I F ∧ Pos (gM S.1) (gC S.1) ∧ SV S.1 ∧ (∀ j, 0 ≤ j ∧ j < gC S.1 → 0 ≤ y j ∧ y j ≤ 9) ∧ FibR (gM S.1) (gC S.1) y I F ∧ ∀ k : Nat, k < 160 → F 1 (18 + k) = gA S.1 k
theorem SrH.S {S : Sx} {y : Int → Int} {I I' : IE} {F F' : FE} (h : SrH S y I F) (hf : Sfr I I' F F') : SrH S y I' F' := by
  obtain ⟨h1, h2, h3, h4, h5, h6⟩ := h
  exact ⟨h1.fr (hf.1 0 5 (by omega)) (hf.2 4 (by decide) (by decide) (by decide)), h2, h3, h4, h5.kp (hf.1 0 14 (by omega)) (hf.2 9 (by decide) (by decide) (by decide)), fun k hk => by rw [hf.2 1 (by decide) (by decide) (by decide)]; exact h6 k hk⟩
