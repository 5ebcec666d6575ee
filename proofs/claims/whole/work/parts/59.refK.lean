theorem lr_s21 {d n0 : Nat} {Q : PQ} {I : IE} {F : FE} {S : Sx} {y : Int → Int} {start : Int} {m k : Nat} {st0 : BS} (hd : 4 ≤ d) (hS : SrH S y I F) (hm : (m : Int) = fbm (gM S.1) (gC S.1) y) (hk : (k : Int) = gk (gM S.1) (gC S.1)) (hI : BI m st0)
    (K : ∀ x y' z I' F', Sfr I I' F F' → WRm m (bfs (nxo (gM S.1) (gC S.1) y) (acI (gA S.1)) (2 * k) m st0) I' F' → WS m8_search d 0 0 n0 Q 0 0 158 [lr 0, li start, x, y', z] [] shM I' F') :
    ∀ (w i : Nat) (x z : Option AV) (I' : IE) (F' : FE), i + w = m → Sfr I I' F F' → WRm m (bfs (nxo (gM S.1) (gC S.1) y) (acI (gA S.1)) (2 * k) i st0) I' F' → WS m8_search d 0 0 n0 Q 0 0 21 [lr 0, li start, li i, x, z] [] shM I' F' := by
  have fP := hS.2.2.2.2.1.2.2.2
  have fm := hS.2.2.2.2.1.2.1
  have hlt : ∀ q c : Int, 0 ≤ q ∧ q < m → 0 ≤ c ∧ c < (2 * k : Nat) → nxo (gM S.1) (gC S.1) y q c < m := fun q c _ _ => by
    have := (nxo_ok (gM S.1) (gC S.1) y q c).lt fP.1
    have z : 0 ≤ fbm (gM S.1) (gC S.1) y := fP.1
    omega
  intro w
  induction w with
  | zero =>
    intro i x z I' F' hw hf hW
    obtain rfl : i = m := by omega
    have hb := BI_bfs (act := acI (gA S.1)) hI hlt i
    have hl := hb.1
    have e2 := hW.2.1
    refine w_iload i8_search_21 rfl ?_
    refine w_aload i8_search_22 rfl ?_
    refine w_get i8_search_23 rfl rfl ?_
    refine w_icmpge i8_search_26 (fun h26 => ?_) (fun h_ => absurd h_ (by omega))
    exact K _ _ _ I' F' hf hW
  | succ w ih =>
    intro i x z I' F' hw hf hW
    have hb := BI_bfs (act := acI (gA S.1)) hI hlt i
    have hl := hb.1
    have e2 := hW.2.1
    have ek : ((i + 1 : Nat) : Int) = (i : Int) + 1 := by omega
    by_cases hc : i < (bfs (nxo (gM S.1) (gC S.1) y) (acI (gA S.1)) (2 * k) i st0).2.length
    · have bs : bfs (nxo (gM S.1) (gC S.1) y) (acI (gA S.1)) (2 * k) (i + 1) st0 = bnode (nxo (gM S.1) (gC S.1) y) (acI (gA S.1)) ((bfs (nxo (gM S.1) (gC S.1) y) (acI (gA S.1)) (2 * k) i st0).2.getD i 0) (2 * k) (bfs (nxo (gM S.1) (gC S.1) y) (acI (gA S.1)) (2 * k) i st0) := if_pos hc
      refine w_iload i8_search_21 rfl ?_
      refine w_aload i8_search_22 rfl ?_
      refine w_get i8_search_23 rfl rfl ?_
      refine w_icmpge i8_search_26 (fun h_ => absurd h_ (by omega)) (fun h26 => ?_)
      refine w_const i8_search_29 ?_
      refine w_is3 i8_search_30 ?_
      refine lr_s31 (I := I') (F := F') hd (hS.S hf) hm hk hb hc rfl rfl (fun x1 I1 F1 g1 g2 => ?_) (2 * k) 0 _ I' F' (by omega) Sfr.rf hW
      refine w_ii2 i8_search_152 (by omega) ?_
      refine w_goto i8_search_155 ?_
      rw [← ek]
      exact ih (i + 1) _ _ I1 F1 (by omega) (hf.tr g1) (by rw [bs]; exact g2)
    · have g := bfs_stop (nx := nxo (gM S.1) (gC S.1) y) (act := acI (gA S.1)) (k2 := 2 * k) (st := st0) (i := i) (by omega) (m - i)
      rw [show i + (m - i) = m by omega] at g
      refine w_iload i8_search_21 rfl ?_
      refine w_aload i8_search_22 rfl ?_
      refine w_get i8_search_23 rfl rfl ?_
      refine w_icmpge i8_search_26 (fun h26 => ?_) (fun h_ => absurd h_ (by omega))
      exact K _ _ _ I' F' hf (by rw [g]; exact hW)
theorem r_search {d : Nat} {I : IE} {F : FE} {S : Sx} {y D : Int → Int} {start : Int} (hd : 4 ≤ d) (hS : SrH S y I F) (hs : 0 ≤ start ∧ start < fbm (gM S.1) (gC S.1) y) (hD : ∀ j, 0 ≤ j ∧ j < fbm (gM S.1) (gC S.1) y → F 12 j = fD (D j)) (hun : D start < 0) : MU m8_search d shM [rv 0, iv start] I F (fun I' F' => Sfr I I' F F' ∧ ∀ j, 0 ≤ j ∧ j < fbm (gM S.1) (gC S.1) y → F' 12 j = fD (bfrom (nxo (gM S.1) (gC S.1) y) (acI (gA S.1)) (2 * (gk (gM S.1) (gC S.1)).toNat) (fbm (gM S.1) (gC S.1) y).toNat D start j)) := by
  have fm := hS.2.2.2.2.1.2.1
  have gk15 := hS.1.2.1
  obtain ⟨m, hm⟩ : ∃ m : Nat, (m : Int) = fbm (gM S.1) (gC S.1) y := ⟨(fbm (gM S.1) (gC S.1) y).toNat, by omega⟩
  obtain ⟨k, hk⟩ : ∃ k : Nat, (k : Int) = gk (gM S.1) (gC S.1) := ⟨(gk (gM S.1) (gC S.1)).toNat, by omega⟩
  have em : (fbm (gM S.1) (gC S.1) y).toNat = m := by omega
  have ekk : (gk (gM S.1) (gC S.1)).toNat = k := by omega
  have e0 : rchp start 0 (D, []) = (fun j => if j = start then 0 else D j, [start]) := by unfold rchp; rw [if_pos ⟨hs.1, hun⟩]; rfl
  have hI : BI m (rchp start 0 (D, [])) := (BI.nil.rch (by omega) ⟨Int.le_refl _, Int.le_refl _⟩).1
  rw [em, ekk]
  refine MS_of (ls := [lr 0, li start, lu, lu, lu]) f8_search rfl rfl (Nat.le_of_ble_eq_true rfl) ?_
  refine w_aload i8_search_0 rfl ?_
  refine w_getr i8_search_1 rfl rfl ?_
  refine w_const i8_search_4 ?_
  refine w_iload i8_search_5 rfl ?_
  refine w_iast i8_search_6 rfl (by omega) ?_
  refine w_aload i8_search_7 rfl ?_
  refine w_const i8_search_8 ?_
  refine w_put i8_search_9 rfl rfl (Or.inl rfl) ?_
  refine w_aload i8_search_12 rfl ?_
  refine w_getr i8_search_13 rfl rfl ?_
  refine w_iload i8_search_16 rfl ?_
  refine w_const i8_search_17 ?_
  refine w_iast i8_search_18 rfl (by omega) ?_
  refine w_const i8_search_19 ?_
  refine w_is2 i8_search_20 ?_
  refine lr_s21 (I := I) (F := F) (st0 := rchp start 0 (D, [])) hd hS hm hk hI (fun x y' z I' F' g1 g2 => ?_) m 0 _ _ _ _ (by omega) ⟨fun a k h => by simp only [upI]; rw [if_neg (by omega)], fun a h1 h2 h3 => by funext j; simp only [upF, h2, h3, false_and, if_false]⟩ ?_
  · refine w_vret i8_search_158 rfl ⟨Nat.le_refl _, Nat.le_refl _⟩ ⟨rfl, rfl, g1, fun j hj => g2.1 j (by omega)⟩
  · show WRm m (rchp start 0 (D, [])) _ _
    rw [e0]
    refine ⟨fun j hj => ?_, by simp [upI], fun i hi => ?_⟩
    · simp only [upF, show ¬ ((12 : Nat) = 13) by decide, false_and, if_false, true_and]
      by_cases c : j = start
      · rw [if_pos c, if_pos c]; rfl
      · rw [if_neg c, if_neg c]; exact hD j (by omega)
    · have i0 : i = 0 := by simp only [List.length_singleton] at hi; omega
      subst i0
      simp [upF]
/-- what may be changed without the state's being changed -/
def Ofr (I I' : IE) (F F' : FE) : Prop := (∀ a k, (a ≠ 0 ∨ (k ≠ 14 ∧ k ≠ 19)) → I' a k = I a k) ∧ ∀ a, a ≤ 8 → F' a = F a
theorem DI.O {S : Sx} {I I' : IE} {F F' : FE} (h : DI S I F) (hf : Ofr I I' F F') : DI S I' F' := by
  obtain ⟨⟨h1, h2, h3⟩, hB, hH, hT⟩ := h
  exact ⟨⟨h1, h2, by rw [hf.2 1 (by decide)]; exact h3⟩, hB.fr (hf.1 0 5 (by omega)) (hf.2 4 (by decide)), hH.fr (hf.1 0 2 (by omega)) (hf.2 2 (by decide)), hT.fr (hf.1 0 4 (by omega)) (hf.2 3 (by decide))⟩
theorem Ofr.tr {I I1 I2 : IE} {F F1 F2 : FE} (h : Ofr I I1 F F1) (g : Ofr I1 I2 F1 F2) : Ofr I I2 F F2 := ⟨fun a k ha => (g.1 a k ha).trans (h.1 a k ha), fun a h1 => (g.2 a h1).trans (h.2 a h1)⟩
theorem Yfr.O {I I' : IE} {F F' : FE} (h : Yfr I I' F F') : Ofr I I' F F' := ⟨fun a k ha => h.1 a k (by omega), fun a h1 => h.2 a (by omega) (by omega)⟩
theorem Sfr.O {I I' : IE} {F F' : FE} (h : Sfr I I' F F') : Ofr I I' F F' := ⟨fun a k ha => h.1 a k (by omega), fun a h1 => h.2 a (by omega) (by omega) (by omega)⟩
/-- rooms of all the fibers that are laid -/
def CapPR : Prop := ∀ (M y : Int → Int) (n : Int), (2 ≤ n ∧ n ≤ 4) → (∀ j, 0 ≤ M j ∧ M j ≤ 3) → Pos M n → (∀ j, 0 ≤ y j ∧ y j ≤ 5) → CapR M n (dt M y 0 n.toNat) (dt M y 1 n.toNat)
def CapER : Prop := ∀ (M : Int → Int) (n e : Int), (2 ≤ n ∧ n ≤ 4) → (∀ j, 0 ≤ M j ∧ M j ≤ 3) → Pos M n → Bas M n (gk M n, grk M n, gE M n) → 0 ≤ e ∧ e < gk M n → CapR M n (dt M (gp M n e 1) 0 n.toNat) (dt M (gp M n e 1) 1 n.toNat)
theorem DI.srh {S : Sx} {I I' : IE} {F F' : FE} {y : Int → Int} (h : DI S I F) (hf : Ofr I I' F F') (hpos : Pos (gM S.1) (gC S.1)) (hy : ∀ j, 0 ≤ j ∧ j < gC S.1 → 0 ≤ y j ∧ y j ≤ 9) (hF : FibR (gM S.1) (gC S.1) y I' F') : SrH S y I' F' :=
  ⟨(h.O hf).2.1, hpos, h.1.1, hy, hF, (h.O hf).1.2.2.2.2.2.2.2⟩
theorem r_layFiberOfPoint {d : Nat} {I : IE} {F : FE} {S : Sx} (hP : CapPR) (hd : 4 ≤ d) (h : DI S I F) (hpos : Pos (gM S.1) (gC S.1)) : MU m8_layFiberOfPoint d shM [rv 0] I F (fun I' F' => Ofr I I' F F' ∧ FibR (gM S.1) (gC S.1) (gY S.1) I' F' ∧ ∀ j, 0 ≤ j ∧ j < 4 → F' 10 j = gY S.1 j) := by
  have hV := h.1.1
  have hn := hV.2.1
  have hM := hV.2.2.1
  have hy : ∀ j, 0 ≤ gY S.1 j ∧ gY S.1 j ≤ 5 := hV.2.2.2.2.2.2.1
  obtain ⟨n1, n2, n3, n4, n5, n6⟩ := h.1.2.2
  refine MS_of (ls := [lr 0]) f8_layFiberOfPoint rfl rfl (Nat.le_of_ble_eq_true rfl) ?_
  refine w_aload i8_layFiberOfPoint_0 rfl ?_
  refine w_cVU i8_layFiberOfPoint_1 f8_setGoalToPoint v8_setGoalToPoint r_setGoalToPoint rfl rfl (by decide) rfl rfl (Nat.le_of_ble_eq_true rfl) (by omega) (fun I1 F1 hq => ?_)
  obtain ⟨rfl, g1, g2⟩ := hq
  have g10 : ∀ j, 0 ≤ j ∧ j < 4 → F1 10 j = gY S.1 j := fun j hj => by rw [g1 j hj]; exact n5 j hj
  have nm : NM (gM S.1) F1 := ⟨fun j hj => by rw [g2 1 (by decide)]; exact n3 j hj, hM⟩
  refine w_aload i8_layFiberOfPoint_4 rfl ?_
  refine w_cVU i8_layFiberOfPoint_5 f8_layFiber v8_layFiber (r_layFiber (M := gM S.1) (y := gY S.1) (by omega) nm (by rw [g2 1 (by decide)]; exact n2) hn hpos (fun j hj => ⟨g10 j (by omega), by have := hy j; omega⟩) (hP _ _ _ hn hM hpos hy)) rfl rfl (by decide) rfl rfl (Nat.le_of_ble_eq_true rfl) (by omega) (fun I2 F2 hr => ?_)
  refine w_vret i8_layFiberOfPoint_8 rfl ⟨Nat.le_refl _, Nat.le_refl _⟩ ?_
  refine ⟨rfl, rfl, ⟨hr.1.O.1, fun a ha => by rw [hr.1.O.2 a ha, g2 a (by omega)]⟩, hr.2, fun j hj => by rw [hr.1.2 10 (by decide) (by decide)]; exact g10 j hj⟩
theorem r_fiberSize {d : Nat} {I : IE} {F : FE} {S : Sx} (hP : CapPR) (hd : 5 ≤ d) (h : DI S I F) : MB m8_fiberSize d shM [rv 0] I F (fun v I' F' => DI S I' F' ∧ ((¬ Pos (gM S.1) (gC S.1) ∧ v = -1002) ∨ Pos (gM S.1) (gC S.1) ∧ v = fbm (gM S.1) (gC S.1) (gY S.1))) := by
  have hn := h.1.1.2.1
  refine MS_of (ls := [lr 0]) f8_fiberSize rfl rfl (Nat.le_of_ble_eq_true rfl) ?_
  refine w_aload i8_fiberSize_0 rfl ?_
  refine w_cVP i8_fiberSize_1 f8_isAllPositive v8_isAllPositive (r_isAllPositive (by omega) h.1.nm h.1.2.2.2.1 (by omega)) rfl rfl (by decide) rfl rfl (Nat.le_of_ble_eq_true rfl) (by omega) (fun v1 hv1 => ?_)
  have hpos : v1 ≠ 0 → Pos (gM S.1) (gC S.1) := fun g => by rcases hv1 with ⟨-, a⟩ | ⟨a, -⟩; exact a; omega
  refine w_ifne i8_fiberSize_4 (fun h4 => ?_) (fun h4 => ?_)
  · refine w_aload i8_fiberSize_11 rfl ?_
    refine w_cVU i8_fiberSize_12 f8_layFiberOfPoint v8_layFiberOfPoint (r_layFiberOfPoint hP (by omega) h (hpos (by assumption))) rfl rfl (by decide) rfl rfl (Nat.le_of_ble_eq_true rfl) (by omega) (fun I1 F1 hq => ?_)
    refine w_aload i8_fiberSize_15 rfl ?_
    refine w_get i8_fiberSize_16 rfl rfl ?_
    refine w_iret i8_fiberSize_19 (Or.inl rfl) ⟨Nat.le_refl _, Nat.le_refl _⟩ ?_
    exact ⟨rfl, _, rfl, h.O hq.1, Or.inr ⟨hpos (by assumption), hq.2.1.1⟩⟩
  · refine w_const i8_fiberSize_7 ?_
    refine w_iret i8_fiberSize_10 (Or.inl rfl) ⟨Nat.le_refl _, Nat.le_refl _⟩ ?_
    refine ⟨rfl, _, rfl, h, Or.inl ⟨fun g => ?_, rfl⟩⟩
    rcases hv1 with ⟨a, -⟩ | ⟨-, a⟩
    · omega
    · exact a g
theorem r_fiberEntry {d : Nat} {I : IE} {F : FE} {S : Sx} {x y : Int} (hP : CapPR) (hd : 5 ≤ d) (h : DI S I F) : MB m8_fiberEntry d shM [rv 0, iv x, iv y] I F (fun v I' F' => DI S I' F' ∧ ((¬ (0 ≤ x ∧ 0 ≤ y ∧ y < gC S.1) ∧ v = -1001) ∨ (0 ≤ x ∧ 0 ≤ y ∧ y < gC S.1) ∧ ((¬ Pos (gM S.1) (gC S.1) ∧ v = -1002) ∨ Pos (gM S.1) (gC S.1) ∧ v = if x < fbm (gM S.1) (gC S.1) (gY S.1) then fbY (gM S.1) (gC S.1) (gY S.1) x (y + (4 - gC S.1)) else -1009))) := by
  have hn := h.1.1.2.1
  have n2 := h.1.2.2.2.1
  refine MS_of (ls := [lr 0, li x, li y]) f8_fiberEntry rfl rfl (Nat.le_of_ble_eq_true rfl) ?_
  refine w_iload i8_fiberEntry_0 rfl ?_
  refine w_iflt i8_fiberEntry_1 (fun h1 => ?_) (fun h1 => ?_)
  · refine w_const i8_fiberEntry_12 ?_
    refine w_iret i8_fiberEntry_15 (Or.inl rfl) ⟨Nat.le_refl _, Nat.le_refl _⟩ ?_
    first
    | (refine ⟨rfl, _, rfl, h, Or.inl ⟨?_, rfl⟩⟩
       omega)
    | (refine ⟨rfl, _, rfl, h, Or.inl ⟨?_, rfl⟩⟩
       rcases hv0 with g | g <;> omega)
  · refine w_aload i8_fiberEntry_4 rfl ?_
    refine w_iload i8_fiberEntry_5 rfl ?_
    refine w_cVP i8_fiberEntry_6 f8_isColumn v8_isColumn (r_isColumn (by omega) n2 (by omega)) rfl rfl (by decide) rfl rfl (Nat.le_of_ble_eq_true rfl) (by omega) (fun v0 hv0 => ?_)
    refine w_ifne i8_fiberEntry_9 (fun h9 => ?_) (fun h9 => ?_)
    · refine w_aload i8_fiberEntry_16 rfl ?_
      refine w_cVP i8_fiberEntry_17 f8_isAllPositive v8_isAllPositive (r_isAllPositive (by omega) h.1.nm n2 (by omega)) rfl rfl (by decide) rfl rfl (Nat.le_of_ble_eq_true rfl) (by omega) (fun v1 hv1 => ?_)
      have hxy : 0 ≤ x ∧ 0 ≤ y ∧ y < gC S.1 := by rcases hv0 with g | g <;> omega
      have hpos : v1 ≠ 0 → Pos (gM S.1) (gC S.1) := fun g => by rcases hv1 with ⟨-, a⟩ | ⟨a, -⟩; exact a; omega
      refine w_ifne i8_fiberEntry_20 (fun h20 => ?_) (fun h20 => ?_)
      · refine w_aload i8_fiberEntry_27 rfl ?_
        refine w_cVU i8_fiberEntry_28 f8_layFiberOfPoint v8_layFiberOfPoint (r_layFiberOfPoint hP (by omega) h (hpos (by assumption))) rfl rfl (by decide) rfl rfl (Nat.le_of_ble_eq_true rfl) (by omega) (fun I1 F1 hq => ?_)
        have hPo := hpos (by assumption)
        obtain ⟨hf, ⟨q1, q2, q3, q4⟩, -⟩ := hq
        refine w_iload i8_fiberEntry_31 rfl ?_
        refine w_aload i8_fiberEntry_32 rfl ?_
        refine w_get i8_fiberEntry_33 rfl rfl ?_
        refine w_icmpge i8_fiberEntry_36 (fun h36 => ?_) (fun h36 => ?_)
        · refine w_const i8_fiberEntry_52 ?_
          refine w_iret i8_fiberEntry_55 (Or.inl rfl) ⟨Nat.le_refl _, Nat.le_refl _⟩ ?_
          first
          | (have e := q3 x (by omega) y (by omega)
             have e' : F1 9 (4 * x + y) = fy (gM S.1) (gC S.1) (gY S.1) x y := e
             refine ⟨rfl, _, rfl, h.O hf, Or.inr ⟨hxy, Or.inr ⟨hPo, ?_⟩⟩⟩
             rw [if_pos (by omega), e']
             unfold fy
             rw [if_pos hxy.2.2])
          | (refine ⟨rfl, -1009, rfl, h.O hf, Or.inr ⟨hxy, Or.inr ⟨hPo, ?_⟩⟩⟩
             rw [if_neg (by omega)])
        · refine w_aload i8_fiberEntry_39 rfl ?_
          refine w_getr i8_fiberEntry_40 rfl rfl ?_
          refine w_const i8_fiberEntry_43 ?_
          refine w_iload i8_fiberEntry_44 rfl ?_
          refine w_imul i8_fiberEntry_45 (by omega) ?_
          refine w_iload i8_fiberEntry_46 rfl ?_
          refine w_iadd i8_fiberEntry_47 (by omega) ?_
          refine w_iald i8_fiberEntry_48 rfl (by omega) ?_
          refine w_goto i8_fiberEntry_49 ?_
          refine w_iret i8_fiberEntry_55 (Or.inl rfl) ⟨Nat.le_refl _, Nat.le_refl _⟩ ?_
          first
          | (have e := q3 x (by omega) y (by omega)
             have e' : F1 9 (4 * x + y) = fy (gM S.1) (gC S.1) (gY S.1) x y := e
             refine ⟨rfl, _, rfl, h.O hf, Or.inr ⟨hxy, Or.inr ⟨hPo, ?_⟩⟩⟩
             rw [if_pos (by omega), e']
             unfold fy
             rw [if_pos hxy.2.2])
          | (refine ⟨rfl, -1009, rfl, h.O hf, Or.inr ⟨hxy, Or.inr ⟨hPo, ?_⟩⟩⟩
             rw [if_neg (by omega)])
      · refine w_const i8_fiberEntry_23 ?_
        refine w_iret i8_fiberEntry_26 (Or.inl rfl) ⟨Nat.le_refl _, Nat.le_refl _⟩ ?_
        refine ⟨rfl, _, rfl, h, Or.inr ⟨hxy, Or.inl ⟨fun g => ?_, rfl⟩⟩⟩
        rcases hv1 with ⟨a, -⟩ | ⟨-, a⟩
        · omega
        · exact a g
    · refine w_const i8_fiberEntry_12 ?_
      refine w_iret i8_fiberEntry_15 (Or.inl rfl) ⟨Nat.le_refl _, Nat.le_refl _⟩ ?_
      first
      | (refine ⟨rfl, _, rfl, h, Or.inl ⟨?_, rfl⟩⟩
         omega)
      | (refine ⟨rfl, _, rfl, h, Or.inl ⟨?_, rfl⟩⟩
         rcases hv0 with g | g <;> omega)
