theorem DB.E {σ : Sg} {I : IE} {F : FE} (h : DB σ I F) : ∀ e, 0 ≤ e ∧ e < gk (gM σ) (gC σ) → (∀ j, 0 ≤ j ∧ j < gC σ → -9 ≤ gE (gM σ) (gC σ) e j ∧ gE (gM σ) (gC σ) e j ≤ 9) ∧ (∀ j, gC σ ≤ j ∧ j < 4 → gE (gM σ) (gC σ) e j = 0) ∧ KerF (gM σ) (gC σ) (gE (gM σ) (gC σ) e) ∧ ∀ j, 0 ≤ j ∧ j < 4 → F 4 (4 * e + j) = gE (gM σ) (gC σ) e j ∧ -9 ≤ gE (gM σ) (gC σ) e j ∧ gE (gM σ) (gC σ) e j ≤ 9 := fun e he => by
  obtain ⟨h1, h2, h3, h0, b, hP, hB⟩ := h
  have b9 := hP.b9
  have c := hB.1 e he
  refine ⟨fun j hj => by have t : -b ≤ gE (gM σ) (gC σ) e j ∧ gE (gM σ) (gC σ) e j ≤ b := c.2.1 j hj; omega, c.2.2.2, c.1, fun j hj => ⟨h3 e he j hj, c.b9 (by omega) j hj⟩⟩
theorem dt_add {M u v : Int → Int} {r : Int} : ∀ k, dt M (fun j => u j + v j) r k = dt M u r k + dt M v r k
  | 0 => rfl
  | k + 1 => by simp only [dt]; rw [dt_add k, Int.mul_add]; omega
theorem nx_in {M y : Int → Int} {n q c : Int} (hn : 2 ≤ n ∧ n ≤ 4) (hpos : Pos M n) (h : FibP M n y (fbm M n y, fbf M n y)) (hq : 0 ≤ q ∧ q < fbm M n y) (hk : KerF M n (cvec (gE M n) c)) (h0 : ∀ i, 0 ≤ i ∧ i < n → 0 ≤ fy M n y q i + cvec (gE M n) c i ∧ fy M n y q i + cvec (gE M n) c i ≤ 127) : (0 ≤ nxo M n y q c ∧ nxo M n y q c < fbm M n y) ∧ nxo M n y q c = ixo M n y (fun i => fy M n y q i + cvec (gE M n) c i) := by
  have e : ∀ i, 0 ≤ i ∧ i < n → fbY M n y q (i + (4 - n)) + cvec (gE M n) c i = fy M n y q i + cvec (gE M n) c i := fun i hi => by unfold fy; rw [if_pos hi.2]
  have nk := NasP_ext (fun _ _ => rfl) e (nxo_ok M n y q c)
  rcases nk with ⟨-, i, i0, i1, i2⟩ | ⟨-, g⟩
  · have := h0 i ⟨i0, i1⟩
    have i2' : fy M n y q i + cvec (gE M n) c i < 0 := i2
    omega
  · have u := idxP_uniq h.2.1 g (ixo_ok M n y (fun i => fy M n y q i + cvec (gE M n) c i))
    refine ⟨?_, u⟩
    rcases g with ⟨g1, g2, -⟩ | ⟨-, g⟩
    · exact ⟨g1, g2⟩
    · exfalso
      have rp := (row_pk hn h hq).2.2.2
      have fw : FSn M n (dt M y 0 n.toNat) (dt M y 1 n.toNat) (fun i => fy M n y q i + cvec (gE M n) c i) := ⟨h0, by rw [dt_add, rp.2.1, hk.1]; omega, by rw [dt_add, rp.2.2, hk.2]; omega⟩
      have f := fw.fs hn hpos
      have b := f.1
      have b0 := b 0 (by decide); have b1 := b 1 (by decide); have b2 := b 2 (by decide)
      obtain ⟨i, i0, i1, i2⟩ := (h.2.2 (cd4 (shf n (fun i => fy M n y q i + cvec (gE M n) c i)))).mpr ⟨_, f, by unfold pre3; omega, rfl⟩
      exact g i ⟨i0, i1⟩ i2
theorem lr_sf {d n0 : Nat} {Q : PQ} {I : IE} {F : FE} {q e s : Int} {u v : Int → Int} (hq : 0 ≤ q ∧ q < 2100) (he : 0 ≤ e ∧ e < 160) (hs : s = 1 ∨ s = -1) (hu : ∀ j, 0 ≤ j ∧ j < 4 → F 9 (4 * q + j) = u j ∧ 0 ≤ u j ∧ u j ≤ 127) (hv : ∀ j, 0 ≤ j ∧ j < 4 → F 4 (4 * e + j) = v j ∧ -9 ≤ v j ∧ v j ≤ 9)
    (K : ∀ b F', tf (∀ j, 0 ≤ j ∧ j < 4 → 0 ≤ u j + s * v j) b → (∀ j, 0 ≤ j ∧ j < 4 → F' 11 j = u j + s * v j) → (∀ a, a ≠ 11 → F' a = F a) → WS m8_stepFrom d 0 0 n0 Q 0 0 72 [lr 0, li q, li e, li s, li b, li 4] [] shM I F') :
    ∀ (m k : Nat) (b : Int) (F' : FE), k + m = 4 → tf (∀ j, 0 ≤ j ∧ j < (k : Int) → 0 ≤ u j + s * v j) b → (∀ j, 0 ≤ j ∧ j < (k : Int) → F' 11 j = u j + s * v j) → (∀ a, a ≠ 11 → F' a = F a) → WS m8_stepFrom d 0 0 n0 Q 0 0 6 [lr 0, li q, li e, li s, li b, li k] [] shM I F' := by
  intro m
  induction m with
  | zero =>
    intro k b F' hk hP h1 h2
    obtain rfl : k = 4 := by omega
    refine w_iload i8_stepFrom_6 rfl ?_
    refine w_const i8_stepFrom_8 ?_
    refine w_icmpge i8_stepFrom_9 (fun h9 => ?_) (fun h_ => absurd h_ (by omega))
    exact K b F' hP h1 h2
  | succ m ih =>
    intro k b F' hk hP h1 h2
    obtain ⟨u1, u2⟩ := hu k (by omega)
    obtain ⟨v1, v2⟩ := hv k (by omega)
    have e9 : F' 9 = F 9 := h2 9 (by decide)
    have e4 : F' 4 = F 4 := h2 4 (by decide)
    have sv' : -9 ≤ s * v k ∧ s * v k ≤ 9 := by rcases hs with rfl | rfl <;> omega
    have val : upF F' 11 (k : Int) (u k + s * v k) 11 k = u k + s * v k := by simp [upF]
    have b01 : b = 1 ∨ b = 0 := by rcases hP with h | h <;> omega
    have step : ∀ w, tf (b = 1 ∧ 0 ≤ u k + s * v k) w → WS m8_stepFrom d 0 0 n0 Q 0 0 6 [lr 0, li q, li e, li s, li w, li ((k : Int) + 1)] [] shM I (upF F' 11 (k : Int) (u k + s * v k)) := fun w hw => by
      have key : (b = 1 ∧ 0 ≤ u k + s * v k) ↔ ∀ j, 0 ≤ j ∧ j < ((k + 1 : Nat) : Int) → 0 ≤ u j + s * v j := by
        constructor
        · rintro ⟨g1, g2⟩ j hj
          rcases hP with ⟨-, g⟩ | ⟨g, -⟩
          · by_cases c : j = k
            · rw [c]; exact g2
            · exact g j (by omega)
          · omega
        · intro g
          refine ⟨?_, g k (by omega)⟩
          rcases hP with ⟨g1, -⟩ | ⟨-, g1⟩
          · exact g1
          · exact absurd (fun j hj => g j (by omega)) g1
      refine ih (k + 1) w _ (by omega) (by unfold tf at hw ⊢; rw [← key]; exact hw) (fun j hj => ?_) (fun a ha => ?_)
      · simp only [upF, true_and]
        by_cases c : j = k
        · rw [if_pos c, c]
        · rw [if_neg c]; exact h1 j (by omega)
      · funext j
        simp only [upF, ha, false_and, if_false]
        rw [h2 a ha]
    refine w_iload i8_stepFrom_6 rfl ?_
    refine w_const i8_stepFrom_8 ?_
    refine w_icmpge i8_stepFrom_9 (fun h_ => absurd h_ (by omega)) (fun h9 => ?_)
    refine w_aload i8_stepFrom_12 rfl ?_
    refine w_getr i8_stepFrom_13 rfl rfl ?_
    refine w_iload i8_stepFrom_16 rfl ?_
    refine w_aload i8_stepFrom_18 rfl ?_
    refine w_getr i8_stepFrom_19 rfl rfl ?_
    refine w_const i8_stepFrom_22 ?_
    refine w_iload i8_stepFrom_23 rfl ?_
    refine w_imul i8_stepFrom_24 (by omega) ?_
    refine w_iload i8_stepFrom_25 rfl ?_
    refine w_iadd i8_stepFrom_27 (by omega) ?_
    refine w_iald i8_stepFrom_28 rfl (by omega) ?_
    rw [e9, u1]
    refine w_iload i8_stepFrom_29 rfl ?_
    refine w_aload i8_stepFrom_30 rfl ?_
    refine w_getr i8_stepFrom_31 rfl rfl ?_
    refine w_const i8_stepFrom_34 ?_
    refine w_iload i8_stepFrom_35 rfl ?_
    refine w_imul i8_stepFrom_36 (by omega) ?_
    refine w_iload i8_stepFrom_37 rfl ?_
    refine w_iadd i8_stepFrom_39 (by omega) ?_
    refine w_iald i8_stepFrom_40 rfl (by omega) ?_
    rw [e4, v1]
    refine w_imul i8_stepFrom_41 (by omega) ?_
    refine w_iadd i8_stepFrom_42 (by omega) ?_
    refine w_iast i8_stepFrom_43 rfl (by omega) ?_
    refine w_iload i8_stepFrom_44 rfl ?_
    refine w_ifeq i8_stepFrom_46 (fun h46 => ?_) (fun h46 => ?_)
    · refine w_const i8_stepFrom_63 ?_
      refine w_is4 i8_stepFrom_64 ?_
      refine w_ii5 i8_stepFrom_66 (by omega) ?_
      refine w_goto i8_stepFrom_69 ?_
      first
      | exact step 1 (Or.inl ⟨rfl, by omega, by assumption⟩)
      | (refine step 0 (Or.inr ⟨rfl, fun g => ?_⟩)
         omega)
    · refine w_aload i8_stepFrom_49 rfl ?_
      refine w_getr i8_stepFrom_50 rfl rfl ?_
      refine w_iload i8_stepFrom_53 rfl ?_
      refine w_iald i8_stepFrom_55 rfl (by omega) ?_
      rw [val]
      refine w_iflt i8_stepFrom_56 (fun h56 => ?_) (fun h56 => ?_)
      · refine w_const i8_stepFrom_63 ?_
        refine w_is4 i8_stepFrom_64 ?_
        refine w_ii5 i8_stepFrom_66 (by omega) ?_
        refine w_goto i8_stepFrom_69 ?_
        first
        | exact step 1 (Or.inl ⟨rfl, by omega, by assumption⟩)
        | (refine step 0 (Or.inr ⟨rfl, fun g => ?_⟩)
           omega)
      · refine w_const i8_stepFrom_59 ?_
        refine w_goto i8_stepFrom_60 ?_
        refine w_is4 i8_stepFrom_64 ?_
        refine w_ii5 i8_stepFrom_66 (by omega) ?_
        refine w_goto i8_stepFrom_69 ?_
        first
        | exact step 1 (Or.inl ⟨rfl, by omega, by assumption⟩)
        | (refine step 0 (Or.inr ⟨rfl, fun g => ?_⟩)
           omega)
theorem r_stepFrom {d : Nat} {I : IE} {F : FE} {M y : Int → Int} {n q e s c : Int} (hd : 3 ≤ d) (hn : 2 ≤ n ∧ n ≤ 4) (hpos : Pos M n) (hM : ∀ j, 0 ≤ M j ∧ M j ≤ 3) (hyb : ∀ j, 0 ≤ j ∧ j < n → 0 ≤ y j ∧ y j ≤ 9) (h : FibR M n y I F) (hq : 0 ≤ q ∧ q < fbm M n y) (he : 0 ≤ e ∧ e < 160) (hE : ∀ j, 0 ≤ j ∧ j < 4 → F 4 (4 * e + j) = gE M n e j ∧ -9 ≤ gE M n e j ∧ gE M n e j ≤ 9) (hE0 : ∀ j, n ≤ j ∧ j < 4 → gE M n e j = 0) (hk : KerF M n (gE M n e)) (hs : s = 1 ∧ c = 2 * e ∨ s = -1 ∧ c = 2 * e + 1) : MB m8_stepFrom d shM [rv 0, iv q, iv e, iv s] I F (fun v I' F' => I' = I ∧ (∀ a, a ≠ 11 → F' a = F a) ∧ v = if nxo M n y q c < 0 then -1009 else nxo M n y q c) := by
  obtain ⟨h1, h2, h3, h4⟩ := id h
  have rp := row_pk hn h4 hq
  have cv : ∀ j, cvec (gE M n) c j = s * gE M n e j := fun j => by
    unfold cvec ng
    rcases hs with ⟨rfl, rfl⟩ | ⟨rfl, rfl⟩
    · rw [if_pos (by omega), show 2 * e / 2 = e by omega, Int.one_mul]
    · rw [if_neg (by omega), show (2 * e + 1) / 2 = e by omega, Int.neg_mul, Int.one_mul]
  have kv : KerF M n (cvec (gE M n) c) := by
    rcases hs with ⟨rfl, rfl⟩ | ⟨rfl, rfl⟩
    · exact hk.ext (fun j _ => by rw [cv j, Int.one_mul])
    · exact hk.neg.ext (fun j _ => by rw [cv j, Int.neg_mul, Int.one_mul])
  have d0 := dt_nn (v := y) (r := 0) hM n.toNat (fun j hj => hyb j (by omega))
  have d1 := dt_nn (v := y) (r := 1) hM n.toNat (fun j hj => hyb j (by omega))
  have f110 : ∀ j, 0 ≤ j ∧ j < 4 → fy M n y q j ≤ 110 := fun j hj => by
    unfold fy
    split
    · exact FS_110 (uu_b hM) (by omega) (by omega) (fbY_ok h4 hq).1 _ (by omega)
    · decide
  have hu : ∀ j, 0 ≤ j ∧ j < 4 → F 9 (4 * q + j) = fy M n y q j ∧ 0 ≤ fy M n y q j ∧ fy M n y q j ≤ 127 := fun j hj => ⟨h3 q hq j hj, rp.2.1 j hj⟩
  have hs1 : s = 1 ∨ s = -1 := by omega
  have sv' : ∀ j, 0 ≤ j ∧ j < 4 → -9 ≤ s * gE M n e j ∧ s * gE M n e j ≤ 9 := fun j hj => by have := (hE j hj).2; rcases hs1 with rfl | rfl <;> omega
  have ez : ∀ j, n ≤ j ∧ j < 4 → fy M n y q j + s * gE M n e j = 0 := fun j hj => by rw [rp.2.2.1 j hj, hE0 j hj, Int.mul_zero]; rfl
  refine MS_of (ls := [lr 0, li q, li e, li s, lu, lu]) f8_stepFrom rfl rfl (Nat.le_of_ble_eq_true rfl) ?_
  refine w_const i8_stepFrom_0 ?_
  refine w_is4 i8_stepFrom_1 ?_
  refine w_const i8_stepFrom_3 ?_
  refine w_is5 i8_stepFrom_4 ?_
  refine lr_sf (F := F) (by omega) he hs1 hu hE (fun b F1 p0 p1 p2 => ?_) 4 0 1 F (by omega) (Or.inl ⟨rfl, fun j hj => absurd hj (by omega)⟩) (fun j hj => absurd hj (by omega)) (fun _ _ => rfl)
  by_cases ha : ∀ j, 0 ≤ j ∧ j < 4 → 0 ≤ fy M n y q j + s * gE M n e j
  · have hb : b ≠ 0 := by rcases p0 with ⟨g, -⟩ | ⟨-, g⟩; omega; exact absurd ha g
    have ix := nx_in (c := c) hn hpos h4 hq kv (fun i hi => by rw [cv i]; have := ha i (by omega); have := f110 i (by omega); have := sv' i (by omega); omega)
    have e1 : ixo M n y (F1 11) = nxo M n y q c := by rw [ix.2]; exact ixo_ext (fun j hj => by rw [p1 j (by omega), cv j])
    refine w_iload i8_stepFrom_72 rfl ?_
    refine w_ifeq i8_stepFrom_74 (fun h_ => absurd h_ (by omega)) (fun h74 => ?_)
    refine w_aload i8_stepFrom_77 rfl ?_
    refine w_cVR i8_stepFrom_78 f8_numberOf v8_numberOf (r_numberOf (M := M) (y := y) (n := n) (by omega) hn (h.kp rfl (p2 9 (by decide))) (fun j hj => by rw [p1 j hj]; have := ha j hj; have := f110 j hj; have := sv' j hj; omega) (fun j hj => by rw [p1 j (by omega)]; exact ez j hj) (by rw [e1]; exact ix.1.1)) rfl rfl (by decide) rfl rfl (Nat.le_of_ble_eq_true rfl) (by omega) ?_
    refine w_goto i8_stepFrom_81 ?_
    refine w_iret i8_stepFrom_87 (Or.inl rfl) ⟨Nat.le_refl _, Nat.le_refl _⟩ ?_
    rw [e1]
    exact ⟨rfl, _, rfl, rfl, p2, by rw [if_neg (by omega)]⟩
  · have hb : b = 0 := by rcases p0 with ⟨-, g⟩ | ⟨g, -⟩; exact absurd g ha; exact g
    have ng : nxo M n y q c < 0 := by
      have e : ∀ i, 0 ≤ i ∧ i < n → fbY M n y q (i + (4 - n)) + cvec (gE M n) c i = fy M n y q i + s * gE M n e i := fun i hi => by unfold fy; rw [if_pos hi.2, cv i]
      have nk := NasP_ext (fun _ _ => rfl) e (nxo_ok M n y q c)
      rcases nk with ⟨g, -⟩ | ⟨g, -⟩
      · omega
      · refine absurd (fun j hj => ?_) ha
        by_cases c : j < n
        · exact g j (by omega)
        · rw [ez j (by omega)]; exact Int.le_refl _
    refine w_iload i8_stepFrom_72 rfl ?_
    refine w_ifeq i8_stepFrom_74 (fun h74 => ?_) (fun h_ => absurd h_ (by omega))
    refine w_const i8_stepFrom_84 ?_
    refine w_iret i8_stepFrom_87 (Or.inl rfl) ⟨Nat.le_refl _, Nat.le_refl _⟩ ?_
    exact ⟨rfl, _, rfl, rfl, p2, by rw [if_pos ng]⟩
/-- the distances as they stand: those not reached are -1009 -/
def fD (x : Int) : Int := if x < 0 then -1009 else x
def WRm (m : Nat) (st : BS) (I : IE) (F : FE) : Prop := (∀ j : Int, 0 ≤ j ∧ j < m → F 12 j = fD (st.1 j)) ∧ I 0 19 = st.2.length ∧ ∀ i : Nat, i < st.2.length → F 13 i = st.2.getD i 0
/-- what a search changes -/
def Sfr (I I' : IE) (F F' : FE) : Prop := (∀ a k, (a ≠ 0 ∨ k ≠ 19) → I' a k = I a k) ∧ ∀ a, a ≠ 11 → a ≠ 12 → a ≠ 13 → F' a = F a
theorem Sfr.rf {I : IE} {F : FE} : Sfr I I F F := ⟨fun _ _ _ => rfl, fun _ _ _ _ => rfl⟩
theorem Sfr.tr {I I1 I2 : IE} {F F1 F2 : FE} (h : Sfr I I1 F F1) (g : Sfr I1 I2 F1 F2) : Sfr I I2 F F2 := ⟨fun a k ha => (g.1 a k ha).trans (h.1 a k ha), fun a h1 h2 h3 => (g.2 a h1 h2 h3).trans (h.2 a h1 h2 h3)⟩
/-- all that a search needs -/
def SrH (S : Sx) (y : Int → Int) (I : IE) (F : FE) : Prop := DB S.1 I F ∧ Pos (gM S.1) (gC S.1) ∧ SV S.1 ∧ (∀ j, 0 ≤ j ∧ j < gC S.1 → 0 ≤ y j ∧ y j ≤ 9) ∧ FibR (gM S.1) (gC S.1) y I F ∧ ∀ k : Nat, k < 160 → F 1 (18 + k) = gA S.1 k
theorem SrH.S {S : Sx} {y : Int → Int} {I I' : IE} {F F' : FE} (h : SrH S y I F) (hf : Sfr I I' F F') : SrH S y I' F' := by
  obtain ⟨h1, h2, h3, h4, h5, h6⟩ := h
  exact ⟨h1.fr (hf.1 0 5 (by omega)) (hf.2 4 (by decide) (by decide) (by decide)), h2, h3, h4, h5.kp (hf.1 0 14 (by omega)) (hf.2 9 (by decide) (by decide) (by decide)), fun k hk => by rw [hf.2 1 (by decide) (by decide) (by decide)]; exact h6 k hk⟩
theorem lr_s105 {d n0 : Nat} {Q : PQ} {I : IE} {F : FE} {start i c r q D : Int} (hi : 0 ≤ i ∧ i < 2100) (hr : 0 ≤ r ∧ r < 2100) (hl : 0 ≤ I 0 19 ∧ I 0 19 < 2100) (hc : 0 ≤ c ∧ c < 1000) (h1 : F 13 i = q) (hq : 0 ≤ q ∧ q < 2100) (h2 : F 12 q = D) (hD : 0 ≤ D ∧ D ≤ 5000)
    (K : WS m8_search d 0 0 n0 Q 0 0 31 [lr 0, li start, li i, li (c + 1), li r] [] shM (upI I 0 19 (I 0 19 + 1)) (upF (upF F 12 r (D + 1)) 13 (I 0 19) r)) : WS m8_search d 0 0 n0 Q 0 0 105 [lr 0, li start, li i, li c, li r] [] shM I F := by
  refine w_aload i8_search_105 rfl ?_
  refine w_getr i8_search_106 rfl rfl ?_
  refine w_iload i8_search_109 rfl ?_
  refine w_aload i8_search_111 rfl ?_
  refine w_getr i8_search_112 rfl rfl ?_
  refine w_aload i8_search_115 rfl ?_
  refine w_getr i8_search_116 rfl rfl ?_
  refine w_iload i8_search_119 rfl ?_
  refine w_iald i8_search_120 rfl (by omega) ?_
  rw [h1]
  refine w_iald i8_search_121 rfl (by omega) ?_
  rw [h2]
  refine w_const i8_search_122 ?_
  refine w_iadd i8_search_123 (by omega) ?_
  refine w_iast i8_search_124 rfl (by omega) ?_
  refine w_aload i8_search_125 rfl ?_
  refine w_getr i8_search_126 rfl rfl ?_
  refine w_aload i8_search_129 rfl ?_
  refine w_get i8_search_130 rfl rfl ?_
  refine w_iload i8_search_133 rfl ?_
  refine w_iast i8_search_135 rfl (by omega) ?_
  refine w_aload i8_search_136 rfl ?_
  refine w_dup i8_search_137 ?_
  refine w_get i8_search_138 rfl rfl ?_
  refine w_const i8_search_141 ?_
  refine w_iadd i8_search_142 (by omega) ?_
  refine w_put i8_search_143 rfl rfl (Or.inl rfl) ?_
  refine w_ii3 i8_search_146 (by omega) ?_
  refine w_goto i8_search_149 ?_
  exact K
theorem lr_s31 {d n0 : Nat} {Q : PQ} {I : IE} {F : FE} {S : Sx} {y : Int → Int} {start i q : Int} {p m k : Nat} {st0 : BS} (hd : 4 ≤ d) (hS : SrH S y I F) (hm : (m : Int) = fbm (gM S.1) (gC S.1) y) (hk : (k : Int) = gk (gM S.1) (gC S.1)) (hI : BI m st0) (hp : p < st0.2.length) (hq : st0.2.getD p 0 = q) (hip : i = (p : Int))
    (K : ∀ x I' F', Sfr I I' F F' → WRm m (bnode (nxo (gM S.1) (gC S.1) y) (acI (gA S.1)) q (2 * k) st0) I' F' → WS m8_search d 0 0 n0 Q 0 0 152 [lr 0, li start, li i, li (2 * k : Nat), x] [] shM I' F') :
    ∀ (w c : Nat) (x : Option AV) (I' : IE) (F' : FE), c + w = 2 * k → Sfr I I' F F' → WRm m (bnode (nxo (gM S.1) (gC S.1) y) (acI (gA S.1)) q c st0) I' F' → WS m8_search d 0 0 n0 Q 0 0 31 [lr 0, li start, li i, li c, x] [] shM I' F' := by
  have hn := hS.2.2.1.2.1
  have hM := hS.2.2.1.2.2.1
  have gk15 := hS.1.2.1
  have fm := hS.2.2.2.2.1.2.1
  have fP := hS.2.2.2.2.1.2.2.2
  have hq2 := hI.2.1 p hp
  rw [hq] at hq2
  have hlt : ∀ c' : Nat, c' < 2 * k → nxo (gM S.1) (gC S.1) y q c' < (m : Int) := fun c' hc' => by
    have := (nxo_ok (gM S.1) (gC S.1) y q c').lt fP.1
    have z : 0 ≤ fbm (gM S.1) (gC S.1) y := fP.1
    omega
  intro w
  induction w with
  | zero =>
    intro c x I' F' hc hf hW
    obtain rfl : c = 2 * k := by omega
    have e5 : I' 0 5 = (k : Int) := by rw [hf.1 0 5 (by omega), hS.1.1, hk]
    have ec : ((2 * k : Nat) : Int) = 2 * (k : Int) := by omega
    refine w_iload i8_search_31 rfl ?_
    refine w_const i8_search_32 ?_
    refine w_aload i8_search_33 rfl ?_
    refine w_get i8_search_34 rfl rfl ?_
    refine w_imul i8_search_37 ((by rw [e5]; constructor <;> omega)) ?_
    refine w_icmpge i8_search_38 (fun h38 => ?_) (fun h_ => absurd h_ (by omega))
    exact K x I' F' hf hW
  | succ w ih =>
    intro c x I' F' hc hf hW
    have hS' := hS.S hf
    have e5 : I' 0 5 = (k : Int) := by rw [hf.1 0 5 (by omega), hS.1.1, hk]
    have ed : (c : Int).tdiv 2 = (c : Int) / 2 := Int.tdiv_eq_ediv_of_nonneg (by omega)
    have em : (c : Int).tmod 2 = (c : Int) % 2 := Int.tmod_eq_emod_of_nonneg (by omega)
    have ek : ((c + 1 : Nat) : Int) = (c : Int) + 1 := by omega
    obtain ⟨hn1, hn2, hn3, hn4⟩ := BI.node (act := acI (gA S.1)) hI hp hq c (fun c' hc' => hlt c' (by omega))
    obtain ⟨st, est⟩ : ∃ st, st = bnode (nxo (gM S.1) (gC S.1) y) (acI (gA S.1)) q c st0 := ⟨_, rfl⟩
    have bs : bnode (nxo (gM S.1) (gC S.1) y) (acI (gA S.1)) q (c + 1) st0 = bcode (nxo (gM S.1) (gC S.1) y) (acI (gA S.1)) q (c : Int) st := by rw [est]; rfl
    rw [← est] at hW hn1 hn2 hn3 hn4
    obtain ⟨w1, w2, w3⟩ := id hW
    have wq : F' 13 i = q := by rw [hip, w3 p (by omega), hn3 p hp, hq]
    have dq : F' 12 q = st.1 q ∧ 0 ≤ st.1 q := by
      have a1 := hn4 q hq2.2.2.1
      have a2 := w1 q ⟨hq2.1, hq2.2.1⟩
      unfold fD at a2
      rw [if_neg (by omega)] at a2
      exact ⟨a2, by omega⟩
    have dqb : st.1 q ≤ p := by rw [hn4 q hq2.2.2.1]; exact hq2.2.2.2
    have pm : p < m := Nat.lt_of_lt_of_le hp hI.1
    have ae : F' 1 (18 + (c : Int) / 2) = acI (gA S.1) ((c : Int) / 2) := by
      have := hS'.2.2.2.2.2 (c / 2) (by omega)
      unfold acI
      rw [show ((c : Int) / 2) = ((c / 2 : Nat) : Int) by omega]
      exact this
    have hEe := DB.E hS'.1 ((c : Int) / 2) (by omega)
    have nx : ∀ (x : Option AV) I2 F2, Sfr I' I2 F' F2 → WRm m (bcode (nxo (gM S.1) (gC S.1) y) (acI (gA S.1)) q (c : Int) st) I2 F2 → WS m8_search d 0 0 n0 Q 0 0 31 [lr 0, li start, li i, li ((c : Int) + 1), x] [] shM I2 F2 := fun x I2 F2 g1 g2 => by
      rw [← ek]
      exact ih (c + 1) x I2 F2 (by omega) (hf.tr g1) (by rw [bs]; exact g2)
    have hl := hn1.1
    by_cases on : acI (gA S.1) ((c : Int) / 2) = 1
    · have bc : bcode (nxo (gM S.1) (gC S.1) y) (acI (gA S.1)) q (c : Int) st = rchp (nxo (gM S.1) (gC S.1) y q c) (st.1 q + 1) st := if_pos on
      obtain ⟨r, er⟩ : ∃ r, r = nxo (gM S.1) (gC S.1) y q c := ⟨_, rfl⟩
      have rlt := hlt c (by omega)
      rw [← er] at bc rlt
      refine w_iload i8_search_31 rfl ?_
      refine w_const i8_search_32 ?_
      refine w_aload i8_search_33 rfl ?_
      refine w_get i8_search_34 rfl rfl ?_
      refine w_imul i8_search_37 ((by rw [e5]; constructor <;> omega)) ?_
      refine w_icmpge i8_search_38 (fun h_ => absurd h_ (by omega)) (fun h38 => ?_)
      refine w_aload i8_search_41 rfl ?_
      refine w_getr i8_search_42 rfl rfl ?_
      refine w_const i8_search_45 ?_
      refine w_iload i8_search_47 rfl ?_
      refine w_const i8_search_48 ?_
      refine w_idiv i8_search_49 (by decide) ((by rw [ed]; constructor <;> omega)) ?_
      rw [ed]
      refine w_iadd i8_search_50 (by omega) ?_
      refine w_iald i8_search_51 rfl (by omega) ?_
      refine w_const i8_search_52 ?_
      refine w_icmpne i8_search_53 (fun h_ => absurd h_ (by rw [ae]; exact fun h => h on)) (fun h53 => ?_)
      refine w_aload i8_search_56 rfl ?_
      refine w_aload i8_search_57 rfl ?_
      refine w_getr i8_search_58 rfl rfl ?_
      refine w_iload i8_search_61 rfl ?_
      refine w_iald i8_search_62 rfl (by omega) ?_
      rw [wq]
      refine w_iload i8_search_63 rfl ?_
      refine w_const i8_search_64 ?_
      refine w_idiv i8_search_65 (by decide) ((by rw [ed]; constructor <;> omega)) ?_
      rw [ed]
      refine w_const i8_search_66 ?_
      refine w_iload i8_search_67 rfl ?_
      refine w_const i8_search_68 ?_
      refine w_irem i8_search_69 (by decide) ((by rw [em]; constructor <;> omega)) ?_
      rw [em]
      refine w_const i8_search_70 ?_
      refine w_imul i8_search_71 (by omega) ?_
      refine w_isub i8_search_72 (by omega) ?_
      refine w_cVB i8_search_73 f8_stepFrom v8_stepFrom (r_stepFrom (M := gM S.1) (y := y) (n := gC S.1) (c := (c : Int)) (by omega) hn hS'.2.1 hM hS'.2.2.2.1 hS'.2.2.2.2.1 (by omega) (by omega) hEe.2.2.2 hEe.2.1 hEe.2.2.1 (by omega)) rfl rfl (by decide) rfl rfl (Nat.le_of_ble_eq_true rfl) (by omega) (fun v I2 F2 hv => ?_)
      refine w_goto i8_search_76 ?_
      obtain ⟨rfl, f2, hv⟩ := hv
      rw [← er] at hv
      have g12 : F2 12 = F' 12 := f2 12 (by decide)
      have g13 : F2 13 = F' 13 := f2 13 (by decide)
      have hf2 : Sfr I2 I2 F' F2 := ⟨fun _ _ _ => rfl, fun a h1 _ _ => f2 a h1⟩
      by_cases rn : r < 0
      · rw [if_pos rn] at hv
        have b2 : rchp r (st.1 q + 1) st = st := by unfold rchp; rw [if_neg (by omega)]
        refine w_is4 i8_search_82 ?_
        refine w_iload i8_search_84 rfl ?_
        refine w_const i8_search_86 ?_
        refine w_icmpeq i8_search_89 (fun _ => ?_) (fun h => absurd hv h)
        refine w_ii3 i8_search_146 (by omega) ?_
        refine w_goto i8_search_149 ?_
        refine nx _ I2 F2 hf2 ?_
        rw [bc, b2]
        exact ⟨by rw [g12]; exact w1, w2, by rw [g13]; exact w3⟩
      · rw [if_neg rn] at hv
        have dr := w1 r ⟨by omega, rlt⟩
        rw [hv]
        refine w_is4 i8_search_82 ?_
        refine w_iload i8_search_84 rfl ?_
        refine w_const i8_search_86 ?_
        refine w_icmpeq i8_search_89 (fun h => absurd h (by omega)) (fun _ => ?_)
        refine w_aload i8_search_92 rfl ?_
        refine w_getr i8_search_93 rfl rfl ?_
        refine w_iload i8_search_96 rfl ?_
        refine w_iald i8_search_98 rfl (by omega) ?_
        refine w_const i8_search_99 ?_
        rw [g12, dr]
        by_cases un : st.1 r < 0
        · have b2 : rchp r (st.1 q + 1) st = (fun j => if j = r then st.1 q + 1 else st.1 j, st.2 ++ [r]) := by unfold rchp; rw [if_pos ⟨by omega, un⟩]
          have room := hn1.room ⟨show 0 ≤ r by omega, rlt⟩ un
          have fr' : fD (st.1 r) = -1009 := if_pos un
          rw [fr']
          have len := w2
          refine w_icmpne i8_search_102 (fun h => absurd rfl h) (fun _ => ?_)
          have wq2 : F2 13 i = q := by rw [g13]; exact wq
          have dq2 : F2 12 q = st.1 q := by rw [g12]; exact dq.1
          refine lr_s105 (by omega) (by omega) (by omega) (by omega) wq2 ⟨hq2.1, by omega⟩ dq2 (by omega) ?_
          refine nx _ _ _ ⟨fun a k h => by simp only [upI]; rw [if_neg (by omega)], fun a h1 h2 h3 => by funext j; simp only [upF, h2, h3, false_and, if_false]; rw [f2 a h1]⟩ ?_
          rw [bc, b2]
          refine ⟨fun j hj => ?_, ?_, fun i' hi' => ?_⟩
          · simp only [upF, show ¬ ((12 : Nat) = 13) by decide, false_and, if_false, true_and]
            by_cases c1 : j = r
            · rw [if_pos c1, if_pos c1]; unfold fD; rw [if_neg (by omega)]
            · rw [if_neg c1, if_neg c1, g12]; exact w1 j hj
          · simp [upI, len]
          · simp only [List.length_append, List.length_singleton] at hi'
            simp only [upF, true_and]
            by_cases c1 : i' = st.2.length
            · rw [if_pos (by omega), c1, getD_app2]
            · rw [if_neg (by omega)]
              show F2 13 i' = _
              rw [getD_app (by omega), g13]
              exact w3 i' (by omega)
        · have b2 : rchp r (st.1 q + 1) st = st := by unfold rchp; rw [if_neg (by omega)]
          have fr' : fD (st.1 r) = st.1 r := if_neg un
          rw [fr']
          refine w_icmpne i8_search_102 (fun _ => ?_) (fun h => absurd h (by omega))
          refine w_ii3 i8_search_146 (by omega) ?_
          refine w_goto i8_search_149 ?_
          refine nx _ I2 F2 hf2 ?_
          rw [bc, b2]
          exact ⟨by rw [g12]; exact w1, w2, by rw [g13]; exact w3⟩
    · have bc : bcode (nxo (gM S.1) (gC S.1) y) (acI (gA S.1)) q (c : Int) st = st := if_neg on
      refine w_iload i8_search_31 rfl ?_
      refine w_const i8_search_32 ?_
      refine w_aload i8_search_33 rfl ?_
      refine w_get i8_search_34 rfl rfl ?_
      refine w_imul i8_search_37 ((by rw [e5]; constructor <;> omega)) ?_
      refine w_icmpge i8_search_38 (fun h_ => absurd h_ (by omega)) (fun h38 => ?_)
      refine w_aload i8_search_41 rfl ?_
      refine w_getr i8_search_42 rfl rfl ?_
      refine w_const i8_search_45 ?_
      refine w_iload i8_search_47 rfl ?_
      refine w_const i8_search_48 ?_
      refine w_idiv i8_search_49 (by decide) ((by rw [ed]; constructor <;> omega)) ?_
      rw [ed]
      refine w_iadd i8_search_50 (by omega) ?_
      refine w_iald i8_search_51 rfl (by omega) ?_
      refine w_const i8_search_52 ?_
      refine w_icmpne i8_search_53 (fun h53 => ?_) (fun h_ => absurd h_ (by rw [ae]; exact on))
      refine w_const i8_search_79 ?_
      refine w_is4 i8_search_82 ?_
      refine w_iload i8_search_84 rfl ?_
      refine w_const i8_search_86 ?_
      refine w_icmpeq i8_search_89 (fun h89 => ?_) (fun h_ => absurd h_ (by omega))
      refine w_ii3 i8_search_146 (by omega) ?_
      refine w_goto i8_search_149 ?_
      exact nx _ I' F' Sfr.rf (by rw [bc]; exact hW)
