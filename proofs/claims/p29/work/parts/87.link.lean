-- steps in the fiber, as the law sees them
def Ap (S : Sx) (i j : Int) : Prop := ApD S (fy (gM S.1) (gC S.1) (gY S.1) j 0 - fy (gM S.1) (gC S.1) (gY S.1) i 0) (fy (gM S.1) (gC S.1) (gY S.1) j 1 - fy (gM S.1) (gC S.1) (gY S.1) i 1) (fy (gM S.1) (gC S.1) (gY S.1) j 2 - fy (gM S.1) (gC S.1) (gY S.1) i 2) (fy (gM S.1) (gC S.1) (gY S.1) j 3 - fy (gM S.1) (gC S.1) (gY S.1) i 3)
theorem ap_iff {S : Sx} (hn : 2 ≤ gC S.1 ∧ gC S.1 ≤ 4) {i j : Int} : Ap S i j ↔ ∃ e s, (0 ≤ e ∧ e < gk (gM S.1) (gC S.1)) ∧ (s = 1 ∨ s = -1) ∧ gA S.1 e.toNat = 1 ∧ ∀ t, 0 ≤ t ∧ t < gC S.1 → fy (gM S.1) (gC S.1) (gY S.1) j t = fy (gM S.1) (gC S.1) (gY S.1) i t + s * gE (gM S.1) (gC S.1) e t := by
  have d : ∀ (a b : Int → Int) (t : Int), 0 ≤ t ∧ t < gC S.1 → dv (b 0 - a 0) (b 1 - a 1) (b 2 - a 2) (b 3 - a 3) t = b t - a t := fun a b t ht => by
    rcases (show t = 0 ∨ t = 1 ∨ t = 2 ∨ t = 3 by omega) with rfl | rfl | rfl | rfl <;> rfl
  unfold Ap ApD
  constructor
  · rintro ⟨e, s, h1, h2, h3, h4⟩
    refine ⟨e, s, h1, h2, h3, fun t ht => ?_⟩
    have := h4 t ht
    rw [d _ _ t ht] at this
    omega
  · rintro ⟨e, s, h1, h2, h3, h4⟩
    refine ⟨e, s, h1, h2, h3, fun t ht => ?_⟩
    rw [d _ _ t ht]
    have := h4 t ht
    omega
theorem Ap.sy {S : Sx} (hn : 2 ≤ gC S.1 ∧ gC S.1 ≤ 4) {i j : Int} (h : Ap S i j) : Ap S j i := by
  obtain ⟨e, s, h1, h2, h3, h4⟩ := (ap_iff hn).mp h
  refine (ap_iff hn).mpr ⟨e, -s, h1, by omega, h3, fun t ht => ?_⟩
  have := h4 t ht
  rw [Int.neg_mul]
  omega
/-- the object's steps: where they lead -/
theorem nx_row {M y : Int → Int} {n : Int} (hn : 2 ≤ n ∧ n ≤ 4) (hM : ∀ j, 0 ≤ M j ∧ M j ≤ 3) (hpos : Pos M n) (hB : Bas M n (gk M n, grk M n, gE M n)) (hy9 : ∀ j, 0 ≤ j ∧ j < n → 0 ≤ y j ∧ y j ≤ 9) {q c : Int} (hq : 0 ≤ q ∧ q < fbm M n y) (hc : 0 ≤ c ∧ c < 2 * gk M n) :
    nxo M n y q c < fbm M n y ∧ (0 ≤ nxo M n y q c → ∀ j, 0 ≤ j ∧ j < n → fy M n y (nxo M n y q c) j = fy M n y q j + cvec (gE M n) c j) ∧
    ∀ p, (0 ≤ p ∧ p < fbm M n y) → (∀ j, 0 ≤ j ∧ j < n → fy M n y p j = fy M n y q j + cvec (gE M n) c j) → nxo M n y q c = p := by
  have hF : FibP M n y (fbm M n y, fbf M n y) := fibP_ok hn hpos
  have cb : ∀ j, 0 ≤ j ∧ j < n → -9 ≤ cvec (gE M n) c j ∧ cvec (gE M n) c j ≤ 9 := fun j hj => by
    have := (bas_el hB (e := c / 2) (by omega)).2.1 j hj
    unfold cvec; split
    · exact this
    · unfold ng; omega
  have ck : KerF M n (cvec (gE M n) c) := by
    have := (bas_el hB (e := c / 2) (by omega)).1
    unfold cvec; split
    · exact this
    · exact this.neg
  have z0 : 0 ≤ fbm M n y := hF.1
  have lt : nxo M n y q c < fbm M n y := by
    rcases (nxo_ok M n y q c).lt hF.1 with ⟨_, h⟩ | ⟨_, h2⟩
    · exact h
    · omega
  have ok : 0 ≤ nxo M n y q c → ∀ j, 0 ≤ j ∧ j < n → fy M n y (nxo M n y q c) j = fy M n y q j + cvec (gE M n) c j := fun h0 => by
    have ev : ∀ i, 0 ≤ i ∧ i < n → fbY M n y q (i + (4 - n)) + cvec (gE M n) c i = fy M n y q i + cvec (gE M n) c i := fun i hi => by unfold fy; rw [if_pos hi.2]
    rcases NasP_ext (fun _ _ => rfl) ev (nxo_ok M n y q c) with ⟨h, _⟩ | ⟨h1, h2⟩
    · omega
    · rcases h2 with ⟨_, h3, h4⟩ | ⟨h3, _⟩
      · have := fy_of hn hF ⟨h0, h3⟩ (z := fun i => fy M n y q i + cvec (gE M n) c i) (fun j hj => by
          have h5 : 0 ≤ fy M n y q j + cvec (gE M n) c j := h1 j hj
          have := fy_110 hn hM hy9 hF hq j hj; have := cb j hj
          exact ⟨h5, show fy M n y q j + cvec (gE M n) c j ≤ 127 by omega⟩) h4
        exact this
      · omega
  refine ⟨lt, ok, fun p hp hpc => ?_⟩
  have h0 : ∀ i, 0 ≤ i ∧ i < n → 0 ≤ fy M n y q i + cvec (gE M n) c i ∧ fy M n y q i + cvec (gE M n) c i ≤ 127 := fun i hi => by
    rw [← hpc i hi]
    exact (row_pk hn hF hp).2.1 i (by omega)
  have ni := nx_in hn hpos hF hq ck h0
  have g := ok ni.1.1
  have p1 := (row_pk hn hF hp).1
  have p2 := (row_pk hn hF ni.1).1
  have pe : pkn (fy M n y p) n.toNat = pkn (fy M n y (nxo M n y q c)) n.toNat := pkn_ext n.toNat (fun j hj => by rw [hpc j (by omega), g j (by omega)])
  rw [p1, p2] at pe
  rcases Int.lt_trichotomy p (nxo M n y q c) with hl | hl | hl
  · have := hF.2.1 p _ ⟨hp.1, hl, ni.1.2⟩; dsimp only at this; omega
  · exact hl.symm
  · have := hF.2.1 _ p ⟨ni.1.1, hl, hp.2⟩; dsimp only at this; omega
theorem ap_nx {S : Sx} {F : FE} (h : FP S F) {q j : Int} (hq : 0 ≤ q ∧ q < fbm (gM S.1) (gC S.1) (gY S.1)) (hj : 0 ≤ j ∧ j < fbm (gM S.1) (gC S.1) (gY S.1)) : AdN (nxo (gM S.1) (gC S.1) (gY S.1)) (acI (gA S.1)) (2 * (gk (gM S.1) (gC S.1)).toNat) q j ↔ Ap S q j := by
  have hS := h.1
  have hn := hS.1.2.1
  have hk := hS.2.2
  have hy9 : ∀ j, 0 ≤ j ∧ j < gC S.1 → 0 ≤ gY S.1 j ∧ gY S.1 j ≤ 9 := fun j _ => by have := hS.1.2.2.2.2.2.2.1 j; omega
  have N := fun c hc => nx_row hn hS.1.2.2.1 h.2.2.1 hS.2.1 hy9 (q := q) (c := c) hq hc
  rw [ap_iff hn]
  unfold AdN acI
  constructor
  · rintro ⟨c, c1, c2, c3, c4⟩
    have hc' : 0 ≤ c ∧ c < 2 * gk (gM S.1) (gC S.1) := by omega
    have g := (N c hc').2.1 (by rw [c3]; exact c4)
    rw [c3] at g
    by_cases e : c % 2 = 0
    · refine ⟨c / 2, 1, by omega, .inl rfl, c2, fun t ht => ?_⟩
      rw [g t ht]
      unfold cvec
      rw [if_pos e]; omega
    · refine ⟨c / 2, -1, by omega, .inr rfl, c2, fun t ht => ?_⟩
      rw [g t ht]
      unfold cvec ng
      rw [if_neg e]; omega
  · rintro ⟨e, s, h1, h2, h3, h4⟩
    obtain ⟨c, hc, hc2, hcv⟩ : ∃ c, (0 ≤ c ∧ c < 2 * gk (gM S.1) (gC S.1)) ∧ c / 2 = e ∧ ∀ j, cvec (gE (gM S.1) (gC S.1)) c j = s * gE (gM S.1) (gC S.1) e j := by
      rcases h2 with rfl | rfl
      · exact ⟨2 * e, by omega, by omega, fun j => by unfold cvec; rw [if_pos (by omega), show 2 * e / 2 = e by omega]; omega⟩
      · exact ⟨2 * e + 1, by omega, by omega, fun j => by unfold cvec ng; rw [if_neg (by omega), show (2 * e + 1) / 2 = e by omega]; omega⟩
    have := (N c hc).2.2 j hj (fun t ht => by rw [h4 t ht, hcv t])
    exact ⟨c, by omega, by rw [hc2]; exact h3, this, hj.1⟩
/-- the object's distances -/
theorem sto_ds {S : Sx} {F : FE} (h : FP S F) : DsG (fbm (gM S.1) (gC S.1) (gY S.1)) (Ap S) (ixo (gM S.1) (gC S.1) (gY S.1) (gY S.1)) (sto S) := by
  have hS := h.1
  have hn := hS.1.2.1
  have hk := hS.2.2
  have hy9 : ∀ j, 0 ≤ j ∧ j < gC S.1 → 0 ≤ gY S.1 j ∧ gY S.1 j ≤ 9 := fun j _ => by have := hS.1.2.2.2.2.2.2.1 j; omega
  have hF := h.fib
  have z0 : 0 ≤ fbm (gM S.1) (gC S.1) (gY S.1) := hF.1
  have hm : ((fbm (gM S.1) (gC S.1) (gY S.1)).toNat : Int) = fbm (gM S.1) (gC S.1) (gY S.1) := by omega
  have own := h.own.1
  have D := bfrom_ds (m := (fbm (gM S.1) (gC S.1) (gY S.1)).toNat) (nx := nxo (gM S.1) (gC S.1) (gY S.1)) (act := acI (gA S.1)) (k2 := 2 * (gk (gM S.1) (gC S.1)).toNat) (s := ixo (gM S.1) (gC S.1) (gY S.1) (gY S.1)) (by omega) (fun q c hq hc => by
    have := (nx_row hn hS.1.2.2.1 h.2.2.1 hS.2.1 hy9 (q := q) (c := c) (by omega) (by omega)).1
    omega)
  rw [hm] at D
  have D2 := D.ext (fun i j hi hj => ap_nx h hi hj)
  have e : ∀ x, 0 ≤ x ∧ x < fbm (gM S.1) (gC S.1) (gY S.1) → sto S x = bfrom (nxo (gM S.1) (gC S.1) (gY S.1)) (acI (gA S.1)) (2 * (gk (gM S.1) (gC S.1)).toNat) (fbm (gM S.1) (gC S.1) (gY S.1)).toNat (fun _ => -1) (ixo (gM S.1) (gC S.1) (gY S.1) (gY S.1)) x := fun x hx => by
    unfold sto stp
    rw [if_pos (by omega)]
  refine ⟨by rw [e _ own]; exact D2.1, fun i j hi hj h0 ha => ?_, fun j hj h0 => ?_⟩
  · rw [e i hi] at h0 ⊢
    rw [e j hj]
    exact D2.2.1 i j hi hj h0 ha
  · rw [e j hj] at h0
    rcases D2.2.2 j hj h0 with g | ⟨i, i1, i2, i3, i4⟩
    · exact .inl g
    · exact .inr ⟨i, i1, by rw [e i i1]; exact i2, i3, by rw [e i i1, e j hj]; exact i4⟩
theorem sto_out {S : Sx} {x : Int} (h : fbm (gM S.1) (gC S.1) (gY S.1) ≤ x) (h0 : 0 ≤ fbm (gM S.1) (gC S.1) (gY S.1)) : sto S x < 0 := by
  unfold sto stp
  rw [if_neg (by omega)]
  decide
/-- the object's classes -/
theorem ncl_lr {S : Sx} {F : FE} (h : FP S F) : ncl (gM S.1) (gC S.1) (gY S.1) (gA S.1) = cP (LR (fbm (gM S.1) (gC S.1) (gY S.1)) (Ap S)) (fbm (gM S.1) (gC S.1) (gY S.1)).toNat := by
  have hS := h.1
  have hn := hS.1.2.1
  have hk := hS.2.2
  have hy9 : ∀ j, 0 ≤ j ∧ j < gC S.1 → 0 ≤ gY S.1 j ∧ gY S.1 j ≤ 9 := fun j _ => by have := hS.1.2.2.2.2.2.2.1 j; omega
  have z0 : 0 ≤ fbm (gM S.1) (gC S.1) (gY S.1) := h.fib.1
  have hm : ((fbm (gM S.1) (gC S.1) (gY S.1)).toNat : Int) = fbm (gM S.1) (gC S.1) (gY S.1) := by omega
  have B := (bcls_ok (m := (fbm (gM S.1) (gC S.1) (gY S.1)).toNat) (nx := nxo (gM S.1) (gC S.1) (gY S.1)) (act := acI (gA S.1)) (k2 := 2 * (gk (gM S.1) (gC S.1)).toNat) (fun q c hq hc => by
    have := (nx_row hn hS.1.2.2.1 h.2.2.1 hS.2.1 hy9 (q := q) (c := c) (by omega) (by omega)).1
    omega) _ (Nat.le_refl _)).1
  unfold ncl
  rw [B]
  refine cP_ext _ (fun j hj => ?_)
  unfold LR
  rw [hm]
  have up := fun i j => ap_nx (S := S) h (q := i) (j := j)
  exact ⟨fun g i hi hr => g i hi (hr.ext (fun a b ha hb => (up a b ha hb).mpr)), fun g i hi hr => g i hi (hr.ext (fun a b ha hb => (up a b ha hb).mp))⟩
