theorem r_compare {d : Nat} {I : IE} {F : FE} {x : Int} {R : Int → Int} (hx : 0 ≤ x ∧ x < 2100) (hR : ∀ j, 0 ≤ j ∧ j < 4 → F 9 (4 * x + j) = R j ∧ 0 ≤ R j ∧ R j ≤ 127) (hy : ∀ j, 0 ≤ j ∧ j < 4 → 0 ≤ F 11 j ∧ F 11 j ≤ 127) : MP m8_compare d shM [rv 0, iv x] I F (fun v => v < 0 ↔ pkn R 4 < pkn (F 11) 4) := by
  have a0 := hR 0 (by decide); have a1 := hR 1 (by decide); have a2 := hR 2 (by decide); have a3 := hR 3 (by decide)
  have b0 := hy 0 (by decide); have b1 := hy 1 (by decide); have b2 := hy 2 (by decide); have b3 := hy 3 (by decide)
  have key : ∀ k : Nat, k ≤ 3 → (∀ j : Int, 0 ≤ j ∧ j < k → R j = F 11 j) → (k < 3 → R k ≠ F 11 k) → (R k - F 11 k < 0 ↔ pkn R 4 < pkn (F 11) 4) := fun k hk h1 h2 => by
    show _ ↔ (((0 * 128 + R 0) * 128 + R 1) * 128 + R 2) * 128 + R 3 < (((0 * 128 + F 11 0) * 128 + F 11 1) * 128 + F 11 2) * 128 + F 11 3
    rcases (show k = 0 ∨ k = 1 ∨ k = 2 ∨ k = 3 by omega) with rfl | rfl | rfl | rfl
    · have := h2 (by decide)
      show R 0 - F 11 0 < 0 ↔ _
      have t : R 0 ≠ F 11 0 := this
      omega
    · have e0 := h1 0 (by decide)
      have t : R 1 ≠ F 11 1 := h2 (by decide)
      show R 1 - F 11 1 < 0 ↔ _
      omega
    · have e0 := h1 0 (by decide)
      have e1 := h1 1 (by decide)
      have t : R 2 ≠ F 11 2 := h2 (by decide)
      show R 2 - F 11 2 < 0 ↔ _
      omega
    · have e0 := h1 0 (by decide)
      have e1 := h1 1 (by decide)
      have e2 := h1 2 (by decide)
      show R 3 - F 11 3 < 0 ↔ _
      omega
  have tail : ∀ k : Nat, k ≤ 3 → (∀ j : Int, 0 ≤ j ∧ j < k → R j = F 11 j) → (k < 3 → R k ≠ F 11 k) → WS m8_compare d 0 0 shM.length (fun r sh' I' F' => sh' = shM ∧ ∃ v, r = some (.inl v) ∧ (v < 0 ↔ pkn R 4 < pkn (F 11) 4) ∧ I' = I ∧ F' = F) 0 0 32 [lr 0, li x, li k] [] shM I F := fun k hk h1 h2 => by
    obtain ⟨r1, r2⟩ := hR k (by omega)
    have y1 := hy k (by omega)
    refine w_aload i8_compare_32 rfl ?_
    refine w_getr i8_compare_33 rfl rfl ?_
    refine w_const i8_compare_36 ?_
    refine w_iload i8_compare_37 rfl ?_
    refine w_imul i8_compare_38 (by omega) ?_
    refine w_iload i8_compare_39 rfl ?_
    refine w_iadd i8_compare_40 (by omega) ?_
    refine w_iald i8_compare_41 rfl (by omega) ?_
    rw [r1]
    refine w_aload i8_compare_42 rfl ?_
    refine w_getr i8_compare_43 rfl rfl ?_
    refine w_iload i8_compare_46 rfl ?_
    refine w_iald i8_compare_47 rfl (by omega) ?_
    refine w_isub i8_compare_48 (by omega) ?_
    refine w_iret i8_compare_49 (Or.inl rfl) ⟨Nat.le_refl _, Nat.le_refl _⟩ ?_
    exact ⟨rfl, _, rfl, key k hk h1 h2, rfl, rfl⟩
  have loop : ∀ (m k : Nat), k + m = 3 → (∀ j : Int, 0 ≤ j ∧ j < k → R j = F 11 j) → WS m8_compare d 0 0 shM.length (fun r sh' I' F' => sh' = shM ∧ ∃ v, r = some (.inl v) ∧ (v < 0 ↔ pkn R 4 < pkn (F 11) 4) ∧ I' = I ∧ F' = F) 0 0 2 [lr 0, li x, li k] [] shM I F := by
    intro m
    induction m with
    | zero =>
      intro k hk h1
      obtain rfl : k = 3 := by omega
      refine w_iload i8_compare_2 rfl ?_
      refine w_const i8_compare_3 ?_
      refine w_icmpge i8_compare_4 (fun h4 => ?_) (fun h_ => absurd h_ (by omega))
      exact tail 3 (by decide) h1 (fun h => absurd h (by decide))
    | succ m ih =>
      intro k hk h1
      obtain ⟨r1, r2⟩ := hR k (by omega)
      refine w_iload i8_compare_2 rfl ?_
      refine w_const i8_compare_3 ?_
      refine w_icmpge i8_compare_4 (fun h_ => absurd h_ (by omega)) (fun h4 => ?_)
      refine w_aload i8_compare_7 rfl ?_
      refine w_getr i8_compare_8 rfl rfl ?_
      refine w_const i8_compare_11 ?_
      refine w_iload i8_compare_12 rfl ?_
      refine w_imul i8_compare_13 (by omega) ?_
      refine w_iload i8_compare_14 rfl ?_
      refine w_iadd i8_compare_15 (by omega) ?_
      refine w_iald i8_compare_16 rfl (by omega) ?_
      rw [r1]
      refine w_aload i8_compare_17 rfl ?_
      refine w_getr i8_compare_18 rfl rfl ?_
      refine w_iload i8_compare_21 rfl ?_
      refine w_iald i8_compare_22 rfl (by omega) ?_
      refine w_icmpne i8_compare_23 (fun h23 => ?_) (fun h23 => ?_)
      · exact tail k (by omega) h1 (fun _ => by assumption)
      · refine w_ii2 i8_compare_26 (by omega) ?_
        refine w_goto i8_compare_29 ?_
        refine ih (k + 1) (by omega) (fun j hj => ?_)
        by_cases c : j = k
        · rw [c]; assumption
        · exact h1 j (by omega)
  refine MS_of (ls := [lr 0, li x, lu]) f8_compare rfl rfl (Nat.le_of_ble_eq_true rfl) ?_
  refine w_const i8_compare_0 ?_
  refine w_is2 i8_compare_1 ?_
  exact loop 3 0 (by omega) (fun j hj => absurd hj (by omega))
theorem lr_no {d n0 : Nat} {Q : PQ} {I : IE} {F : FE} {R : Int → Int → Int} {m r : Int} (hd : 1 ≤ d) (hm : 0 ≤ m ∧ m ≤ 2100) (hR : ∀ i, 0 ≤ i ∧ i < m → ∀ j, 0 ≤ j ∧ j < 4 → F 9 (4 * i + j) = R i j ∧ 0 ≤ R i j ∧ R i j ≤ 127) (hy : ∀ j, 0 ≤ j ∧ j < 4 → 0 ≤ F 11 j ∧ F 11 j ≤ 127) (hs : ∀ i j, 0 ≤ i ∧ i < j ∧ j < m → pkn (R i) 4 < pkn (R j) 4) (hr : 0 ≤ r ∧ r < m) (he : pkn (R r) 4 = pkn (F 11) 4)
    (K : ∀ x y, WS m8_numberOf d 0 0 n0 Q 0 0 40 [lr 0, li r, x, y] [] shM I F) :
    ∀ (w : Nat) (lo hi : Int) (x : Option AV), hi - lo ≤ w → 0 ≤ lo → lo ≤ r → r ≤ hi → hi < m → WS m8_numberOf d 0 0 n0 Q 0 0 9 [lr 0, li lo, li hi, x] [] shM I F := by
  intro w
  induction w with
  | zero =>
    intro lo hi x hw h0 h1 h2 h3
    have e : lo = r := by omega
    refine w_iload i8_numberOf_9 rfl ?_
    refine w_iload i8_numberOf_10 rfl ?_
    refine w_icmpge i8_numberOf_11 (fun h11 => ?_) (fun h_ => absurd h_ (by omega))
    rw [e]
    exact K _ _
  | succ w ih =>
    intro lo hi x hw h0 h1 h2 h3
    have ed : (lo + hi).tdiv 2 = (lo + hi) / 2 := Int.tdiv_eq_ediv_of_nonneg (by omega)
    by_cases c : lo < hi
    · refine w_iload i8_numberOf_9 rfl ?_
      refine w_iload i8_numberOf_10 rfl ?_
      refine w_icmpge i8_numberOf_11 (fun h_ => absurd h_ (by omega)) (fun h11 => ?_)
      refine w_iload i8_numberOf_14 rfl ?_
      refine w_iload i8_numberOf_15 rfl ?_
      refine w_iadd i8_numberOf_16 (by omega) ?_
      refine w_const i8_numberOf_17 ?_
      refine w_idiv i8_numberOf_18 (by decide) ((by rw [ed]; constructor <;> omega)) ?_
      rw [ed]
      refine w_is3 i8_numberOf_19 ?_
      refine w_aload i8_numberOf_20 rfl ?_
      refine w_iload i8_numberOf_21 rfl ?_
      refine w_cVP i8_numberOf_22 f8_compare v8_compare (r_compare (R := R ((lo + hi) / 2)) (by omega) (hR _ (by omega)) hy) rfl rfl (by decide) rfl rfl (Nat.le_of_ble_eq_true rfl) (by omega) (fun v hv => ?_)
      refine w_ifge i8_numberOf_25 (fun h25 => ?_) (fun h25 => ?_)
      · refine w_iload i8_numberOf_35 rfl ?_
        refine w_is2 i8_numberOf_36 ?_
        refine w_goto i8_numberOf_37 ?_
        first
        | (have hn : v < 0 := by assumption
           have lt := hv.mp hn
           rw [← he] at lt
           have : (lo + hi) / 2 < r := by
             apply Classical.byContradiction
             intro h
             by_cases e : (lo + hi) / 2 = r
             · rw [e] at lt; omega
             · have := hs r ((lo + hi) / 2) (by omega); omega
           exact ih _ _ _ (by omega) (by omega) (by omega) (by omega) (by omega))
        | (have hn : ¬ v < 0 := by omega
           have ge : ¬ pkn (R ((lo + hi) / 2)) 4 < pkn (F 11) 4 := fun h => hn (hv.mpr h)
           rw [← he] at ge
           have : r ≤ (lo + hi) / 2 := by
             apply Classical.byContradiction
             intro h
             exact ge (hs ((lo + hi) / 2) r (by omega))
           exact ih _ _ _ (by omega) (by omega) (by omega) (by omega) (by omega))
      · refine w_iload i8_numberOf_28 rfl ?_
        refine w_const i8_numberOf_29 ?_
        refine w_iadd i8_numberOf_30 (by omega) ?_
        refine w_is1 i8_numberOf_31 ?_
        refine w_goto i8_numberOf_32 ?_
        refine w_goto i8_numberOf_37 ?_
        first
        | (have hn : v < 0 := by assumption
           have lt := hv.mp hn
           rw [← he] at lt
           have : (lo + hi) / 2 < r := by
             apply Classical.byContradiction
             intro h
             by_cases e : (lo + hi) / 2 = r
             · rw [e] at lt; omega
             · have := hs r ((lo + hi) / 2) (by omega); omega
           exact ih _ _ _ (by omega) (by omega) (by omega) (by omega) (by omega))
        | (have hn : ¬ v < 0 := by omega
           have ge : ¬ pkn (R ((lo + hi) / 2)) 4 < pkn (F 11) 4 := fun h => hn (hv.mpr h)
           rw [← he] at ge
           have : r ≤ (lo + hi) / 2 := by
             apply Classical.byContradiction
             intro h
             exact ge (hs ((lo + hi) / 2) r (by omega))
           exact ih _ _ _ (by omega) (by omega) (by omega) (by omega) (by omega))
    · have e : lo = r := by omega
      refine w_iload i8_numberOf_9 rfl ?_
      refine w_iload i8_numberOf_10 rfl ?_
      refine w_icmpge i8_numberOf_11 (fun h11 => ?_) (fun h_ => absurd h_ (by omega))
      rw [e]
      exact K _ _
theorem row_pk {M y : Int → Int} {n : Int} (hn : 2 ≤ n ∧ n ≤ 4) (h : FibP M n y (fbm M n y, fbf M n y)) {i : Int} (hi : 0 ≤ i ∧ i < fbm M n y) : pkn (fy M n y i) n.toNat = fbf M n y i ∧ (∀ j, 0 ≤ j ∧ j < 4 → 0 ≤ fy M n y i j ∧ fy M n y i j ≤ 127) ∧ (∀ j, n ≤ j ∧ j < 4 → fy M n y i j = 0) ∧ FSn M n (dt M y 0 n.toNat) (dt M y 1 n.toNat) (fy M n y i) := by
  obtain ⟨g1, g2⟩ := fbY_ok h hi
  obtain ⟨g3, g4⟩ := g1.fsn hn
  have e : ∀ j, 0 ≤ j ∧ j < n → fy M n y i j = usf n (fbY M n y i) j := fun j hj => by unfold fy usf; rw [if_pos hj.2]
  refine ⟨?_, fun j hj => ?_, fun j hj => ?_, fun j hj => by rw [e j hj]; exact g3.1 j hj, ?_, ?_⟩
  · rw [pkn_ext n.toNat (fun j hj => e j (by omega)), pk_cd4 hn, g2]
    unfold cd4 pre3
    rw [g4 0 (by decide), g4 1 (by decide), g4 2 (by decide), g4 3 (by decide)]
  · unfold fy
    split
    · have := g1.1 (j + (4 - n)) (by omega); omega
    · decide
  · unfold fy; rw [if_neg (by omega)]
  · rw [dt_ext n.toNat (fun j hj => e j (by omega))]; exact g3.2.1
  · rw [dt_ext n.toNat (fun j hj => e j (by omega))]; exact g3.2.2
theorem pkn4 {n : Int} {u v : Int → Int} (hn : 2 ≤ n ∧ n ≤ 4) (hu : ∀ j, n ≤ j ∧ j < 4 → u j = 0) (hv : ∀ j, n ≤ j ∧ j < 4 → v j = 0) : (pkn u 4 < pkn v 4 ↔ pkn u n.toNat < pkn v n.toNat) ∧ (pkn u n.toNat = pkn v n.toNat → pkn u 4 = pkn v 4) := by
  rcases (show n = 2 ∨ n = 3 ∨ n = 4 by omega) with rfl | rfl | rfl
  · have u2 := hu 2 (by decide); have u3 := hu 3 (by decide); have v2 := hv 2 (by decide); have v3 := hv 3 (by decide)
    show ((pkn u 2 * 128 + u 2) * 128 + u 3 < (pkn v 2 * 128 + v 2) * 128 + v 3 ↔ pkn u 2 < pkn v 2) ∧ (pkn u 2 = pkn v 2 → (pkn u 2 * 128 + u 2) * 128 + u 3 = (pkn v 2 * 128 + v 2) * 128 + v 3)
    omega
  · have u3 := hu 3 (by decide); have v3 := hv 3 (by decide)
    show (pkn u 3 * 128 + u 3 < pkn v 3 * 128 + v 3 ↔ pkn u 3 < pkn v 3) ∧ (pkn u 3 = pkn v 3 → pkn u 3 * 128 + u 3 = pkn v 3 * 128 + v 3)
    omega
  · exact ⟨Iff.rfl, id⟩
theorem r_numberOf {d : Nat} {I : IE} {F : FE} {M y : Int → Int} {n : Int} (hd : 2 ≤ d) (hn : 2 ≤ n ∧ n ≤ 4) (h : FibR M n y I F) (hy : ∀ j, 0 ≤ j ∧ j < 4 → 0 ≤ F 11 j ∧ F 11 j ≤ 127) (hz : ∀ j, n ≤ j ∧ j < 4 → F 11 j = 0) (hi : 0 ≤ ixo M n y (F 11)) : MR m8_numberOf d shM [rv 0] I F (ixo M n y (F 11)) := by
  obtain ⟨h1, h2, h3, h4⟩ := h
  have ix := ixo_ok M n y (F 11)
  have hr : ixo M n y (F 11) < fbm M n y ∧ fbf M n y (ixo M n y (F 11)) = cd4 (shf n (F 11)) := by
    rcases ix with ⟨g1, g2, g3⟩ | ⟨g1, -⟩
    · exact ⟨g2, g3⟩
    · omega
  generalize ixo M n y (F 11) = r at hi hr ix ⊢
  have rp := row_pk hn h4 (i := r) ⟨hi, hr.1⟩
  have he : pkn (fy M n y r) 4 = pkn (F 11) 4 := (pkn4 hn rp.2.2.1 hz).2 (by rw [rp.1, hr.2, pk_cd4 hn])
  have hs : ∀ i j, 0 ≤ i ∧ i < j ∧ j < fbm M n y → pkn (fy M n y i) 4 < pkn (fy M n y j) 4 := fun i j hij => by
    have a := row_pk hn h4 (i := i) (by omega)
    have b := row_pk hn h4 (i := j) (by omega)
    rw [(pkn4 hn a.2.2.1 b.2.2.1).1, a.1, b.1]
    exact h4.2.1 i j hij
  have hR : ∀ i, 0 ≤ i ∧ i < fbm M n y → ∀ j, 0 ≤ j ∧ j < 4 → F 9 (4 * i + j) = fy M n y i j ∧ 0 ≤ fy M n y i j ∧ fy M n y i j ≤ 127 := fun i hi j hj => ⟨h3 i hi j hj, (row_pk hn h4 hi).2.1 j hj⟩
  refine MS_of (ls := [lr 0, lu, lu, lu]) f8_numberOf rfl rfl (Nat.le_of_ble_eq_true rfl) ?_
  refine w_const i8_numberOf_0 ?_
  refine w_is1 i8_numberOf_1 ?_
  refine w_aload i8_numberOf_2 rfl ?_
  refine w_get i8_numberOf_3 rfl rfl ?_
  refine w_const i8_numberOf_6 ?_
  refine w_isub i8_numberOf_7 (by omega) ?_
  refine w_is2 i8_numberOf_8 ?_
  refine lr_no (r := r) (m := fbm M n y) (R := fy M n y) (by omega) (by omega) hR hy hs ⟨hi, hr.1⟩ he (fun x y => ?_) (I 0 14).toNat _ _ _ (by omega) (by omega) (by omega) (by omega) (by omega)
  refine w_iload i8_numberOf_40 rfl ?_
  refine w_iret i8_numberOf_41 (Or.inl rfl) ⟨Nat.le_refl _, Nat.le_refl _⟩ ?_
  exact ⟨rfl, rfl, rfl, rfl⟩
theorem lr_ng {d n0 : Nat} {Q : PQ} {I : IE} {F : FE}
    (K : ∀ F', (∀ j, 0 ≤ j ∧ j < 4 → F' 11 j = F 10 j) → (∀ a, a ≠ 11 → F' a = F a) → WS m8_numberOfGoal d 0 0 n0 Q 0 0 25 [lr 0, li 4] [] shM I F') :
    ∀ (m k : Nat) (F' : FE), k + m = 4 → (∀ j, 0 ≤ j ∧ j < (k : Int) → F' 11 j = F 10 j) → (∀ a, a ≠ 11 → F' a = F a) → WS m8_numberOfGoal d 0 0 n0 Q 0 0 2 [lr 0, li k] [] shM I F' := by
  intro m
  induction m with
  | zero =>
    intro k F' hk h1 h2
    obtain rfl : k = 4 := by omega
    refine w_iload i8_numberOfGoal_2 rfl ?_
    refine w_const i8_numberOfGoal_3 ?_
    refine w_icmpge i8_numberOfGoal_4 (fun h4 => ?_) (fun h_ => absurd h_ (by omega))
    exact K F' h1 h2
  | succ m ih =>
    intro k F' hk h1 h2
    have e10 : F' 10 = F 10 := h2 10 (by decide)
    refine w_iload i8_numberOfGoal_2 rfl ?_
    refine w_const i8_numberOfGoal_3 ?_
    refine w_icmpge i8_numberOfGoal_4 (fun h_ => absurd h_ (by omega)) (fun h4 => ?_)
    refine w_aload i8_numberOfGoal_7 rfl ?_
    refine w_getr i8_numberOfGoal_8 rfl rfl ?_
    refine w_iload i8_numberOfGoal_11 rfl ?_
    refine w_aload i8_numberOfGoal_12 rfl ?_
    refine w_getr i8_numberOfGoal_13 rfl rfl ?_
    refine w_iload i8_numberOfGoal_16 rfl ?_
    refine w_iald i8_numberOfGoal_17 rfl (by omega) ?_
    refine w_iast i8_numberOfGoal_18 rfl (by omega) ?_
    refine w_ii1 i8_numberOfGoal_19 (by omega) ?_
    refine w_goto i8_numberOfGoal_22 ?_
    refine ih (k + 1) _ (by omega) (fun j hj => ?_) (fun a ha => ?_)
    · simp only [upF, true_and]
      by_cases c : j = k
      · rw [if_pos c, c, e10]
      · rw [if_neg c]; exact h1 j (by omega)
    · funext j
      simp only [upF, ha, false_and, if_false]
      rw [h2 a ha]
theorem ixo_ext {M y : Int → Int} {n : Int} {u v : Int → Int} (e : ∀ j, 0 ≤ j ∧ j < n → u j = v j) : ixo M n y u = ixo M n y v := by unfold ixo; rw [shf_ext e]
theorem FibR.kp {M y : Int → Int} {n : Int} {I I' : IE} {F F' : FE} (h : FibR M n y I F) (h0 : I' 0 14 = I 0 14) (h1 : F' 9 = F 9) : FibR M n y I' F' := by
  obtain ⟨a1, a2, a3, a4⟩ := h
  exact ⟨by rw [h0, a1], a2, fun i hi j hj => by rw [← a3 i hi j hj]; unfold fr; rw [h1], a4⟩
theorem r_numberOfGoal {d : Nat} {I : IE} {F : FE} {M y z : Int → Int} {n : Int} (hd : 3 ≤ d) (hn : 2 ≤ n ∧ n ≤ 4) (h : FibR M n y I F) (hg : ∀ j, 0 ≤ j ∧ j < 4 → F 10 j = z j ∧ 0 ≤ z j ∧ z j ≤ 127) (hz : ∀ j, n ≤ j ∧ j < 4 → z j = 0) (hi : 0 ≤ ixo M n y z) : MB m8_numberOfGoal d shM [rv 0] I F (fun v I' F' => v = ixo M n y z ∧ I' = I ∧ ∀ a, a ≠ 11 → F' a = F a) := by
  refine MS_of (ls := [lr 0, lu]) f8_numberOfGoal rfl rfl (Nat.le_of_ble_eq_true rfl) ?_
  refine w_const i8_numberOfGoal_0 ?_
  refine w_is1 i8_numberOfGoal_1 ?_
  refine lr_ng (F := F) (fun F1 h1 h2 => ?_) 4 0 F (by omega) (fun j hj => absurd hj (by omega)) (fun _ _ => rfl)
  have e : ixo M n y (F1 11) = ixo M n y z := ixo_ext (fun j hj => by rw [h1 j (by omega)]; exact (hg j (by omega)).1)
  refine w_aload i8_numberOfGoal_25 rfl ?_
  refine w_cVR i8_numberOfGoal_26 f8_numberOf v8_numberOf (r_numberOf (M := M) (y := y) (n := n) (by omega) hn (h.kp rfl (h2 9 (by decide))) (fun j hj => by rw [h1 j hj, (hg j hj).1]; exact (hg j hj).2) (fun j hj => by rw [h1 j (by omega), (hg j (by omega)).1]; exact hz j hj) (by rw [e]; exact hi)) rfl rfl (by decide) rfl rfl (Nat.le_of_ble_eq_true rfl) (by omega) ?_
  refine w_iret i8_numberOfGoal_29 (Or.inl rfl) ⟨Nat.le_refl _, Nat.le_refl _⟩ ?_
  rw [e]
  exact ⟨rfl, _, rfl, rfl, rfl, h2⟩
theorem lr_cf {d n0 : Nat} {Q : PQ} {I : IE} {F : FE} {m : Int} (hm : I 0 14 = m) (h4 : 0 ≤ m ∧ m ≤ 2100)
    (K : ∀ F', (∀ j, 0 ≤ j ∧ j < m → F' 12 j = -1009) → (∀ a, a ≠ 12 → F' a = F a) → WS m8_clearFar d 0 0 n0 Q 0 0 25 [lr 0, li m] [] shM I F') :
    ∀ (w k : Nat) (F' : FE), (k + w : Int) = m → (∀ j, 0 ≤ j ∧ j < (k : Int) → F' 12 j = -1009) → (∀ a, a ≠ 12 → F' a = F a) → WS m8_clearFar d 0 0 n0 Q 0 0 2 [lr 0, li k] [] shM I F' := by
  intro w
  induction w with
  | zero =>
    intro k F' hk h1 h2
    have ek : (k : Int) = m := by omega
    rw [ek] at h1 ⊢
    refine w_iload i8_clearFar_2 rfl ?_
    refine w_aload i8_clearFar_3 rfl ?_
    refine w_get i8_clearFar_4 rfl rfl ?_
    refine w_icmpge i8_clearFar_7 (fun h7 => ?_) (fun h_ => absurd h_ (by omega))
    exact K F' h1 h2
  | succ w ih =>
    intro k F' hk h1 h2
    refine w_iload i8_clearFar_2 rfl ?_
    refine w_aload i8_clearFar_3 rfl ?_
    refine w_get i8_clearFar_4 rfl rfl ?_
    refine w_icmpge i8_clearFar_7 (fun h_ => absurd h_ (by omega)) (fun h7 => ?_)
    refine w_aload i8_clearFar_10 rfl ?_
    refine w_getr i8_clearFar_11 rfl rfl ?_
    refine w_iload i8_clearFar_14 rfl ?_
    refine w_const i8_clearFar_15 ?_
    refine w_iast i8_clearFar_18 rfl (by omega) ?_
    refine w_ii1 i8_clearFar_19 (by omega) ?_
    refine w_goto i8_clearFar_22 ?_
    refine ih (k + 1) _ (by omega) (fun j hj => ?_) (fun a ha => ?_)
    · simp only [upF, true_and]
      by_cases c : j = k
      · rw [if_pos c]
      · rw [if_neg c]; exact h1 j (by omega)
    · funext j
      simp only [upF, ha, false_and, if_false]
      rw [h2 a ha]
theorem r_clearFar {d : Nat} {I : IE} {F : FE} {m : Int} (hm : I 0 14 = m) (h4 : 0 ≤ m ∧ m ≤ 2100) : MU m8_clearFar d shM [rv 0] I F (fun I' F' => I' = I ∧ (∀ j, 0 ≤ j ∧ j < m → F' 12 j = -1009) ∧ ∀ a, a ≠ 12 → F' a = F a) := by
  refine MS_of (ls := [lr 0, lu]) f8_clearFar rfl rfl (Nat.le_of_ble_eq_true rfl) ?_
  refine w_const i8_clearFar_0 ?_
  refine w_is1 i8_clearFar_1 ?_
  refine lr_cf (F := F) hm h4 (fun F' h1 h2 => ?_) m.toNat 0 F (by omega) (fun j hj => absurd hj (by omega)) (fun _ _ => rfl)
  refine w_vret i8_clearFar_25 rfl ⟨Nat.le_refl _, Nat.le_refl _⟩ ?_
  exact ⟨rfl, rfl, rfl, h1, h2⟩
