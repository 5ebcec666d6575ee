/-- the decomposition of w, to its end -/
def DecF (M : Int → Int) (n : Int) (w : Int → Int) (len : Nat) (R : Nat → Int → Int) (C : Nat → Int) : Prop := (∀ j, 0 ≤ j ∧ j < n → R 0 j = w j) ∧ (∀ i : Nat, i < len → (0 ≤ C i ∧ C i < 2 * gk M n) ∧ isF n (gE M n) (R i) (C i) ∧ ∀ j, 0 ≤ j ∧ j < n → R (i + 1) j = R i j - cvec (gE M n) (C i) j) ∧ (∀ j, 0 ≤ j ∧ j < n → R len j = 0) ∧ (len : Int) ≤ asum w n.toNat ∧ ∀ i : Nat, i ≤ len → ∀ j, 0 ≤ j ∧ j < n → c1 (R i j) (w j)
/-- something fits each vector of the kernel -/
def Hex (M : Int → Int) (n : Int) : Prop := ∀ r, KerF M n r → nz n r → ∃ c, (0 ≤ c ∧ c < 2 * gk M n) ∧ cf n (cvec (gE M n) c) r
theorem least_c {P : Int → Prop} {c : Int} (h0 : 0 ≤ c) (h : P c) : ∃ q, 0 ≤ q ∧ q ≤ c ∧ P q ∧ ∀ q', 0 ≤ q' ∧ q' < q → ¬ P q' := by
  have key : ∀ k : Nat, ∀ c : Int, 0 ≤ c → c ≤ k → P c → ∃ q, 0 ≤ q ∧ q ≤ c ∧ P q ∧ ∀ q', 0 ≤ q' ∧ q' < q → ¬ P q' := by
    intro k
    induction k with
    | zero =>
      intro c h0 h1 h2
      exact ⟨c, h0, Int.le_refl _, h2, fun q' hq => absurd hq (by omega)⟩
    | succ k ih =>
      intro c h0 h1 h2
      by_cases e : ∃ q', (0 ≤ q' ∧ q' < c) ∧ P q'
      · obtain ⟨q', g1, g2⟩ := e
        obtain ⟨q, a1, a2, a3, a4⟩ := ih q' g1.1 (by omega) g2
        exact ⟨q, a1, by omega, a3, a4⟩
      · exact ⟨c, h0, Int.le_refl _, h2, fun q' hq g => e ⟨q', hq, g⟩⟩
  exact key c.toNat c h0 (by omega) h
theorem cvec_ker {M : Int → Int} {n c : Int} (hk : ∀ e, 0 ≤ e ∧ e < gk M n → KerF M n (gE M n e)) (hc : 0 ≤ c ∧ c < 2 * gk M n) : KerF M n (cvec (gE M n) c) := by
  unfold cvec
  split
  · exact hk _ (by omega)
  · exact (hk _ (by omega)).neg
theorem DecF.ex {M : Int → Int} {n : Int} (hn : 2 ≤ n ∧ n ≤ 4) (hk : ∀ e, 0 ≤ e ∧ e < gk M n → KerF M n (gE M n e) ∧ nz n (gE M n e)) (hex : Hex M n) : ∀ (N : Nat) (w : Int → Int), KerF M n w → asum w n.toNat ≤ N → ∃ len R C, DecF M n w len R C := by
  intro N
  induction N with
  | zero =>
    intro w hw hN
    refine ⟨0, fun _ => w, fun _ => 0, fun _ _ => rfl, fun i hi => absurd hi (Nat.not_lt_zero _), fun j hj => ?_, asum_0 _, fun i hi j hj => c1_rf _⟩
    apply Classical.byContradiction
    intro h
    have := asum_pos (f := w) (j := j) n.toNat (by omega) h
    omega
  | succ N ih =>
    intro w hw hN
    by_cases z : nz n w
    · obtain ⟨c0, h0, h1⟩ := hex w hw z
      obtain ⟨c, q0, q1, q2, q3⟩ := least_c (P := fun c => cf n (cvec (gE M n) c) w) h0.1 h1
      have kc := cvec_ker (fun e he => (hk e he).1) (c := c) (by omega)
      have nzc : nz n (cvec (gE M n) c) := by
        obtain ⟨j, j0, j1, j2⟩ := (hk (c / 2) (by omega)).2
        refine ⟨j, j0, j1, ?_⟩
        unfold cvec
        split
        · exact j2
        · unfold ng; omega
      have sub := asum_sub n.toNat (u := cvec (gE M n) c) (v := w) (fun j hj => q2 j (by omega))
      have pos : 1 ≤ asum (cvec (gE M n) c) n.toNat := by
        obtain ⟨j, j0, j1, j2⟩ := nzc
        exact asum_pos (j := j) _ (by omega) j2
      have kw : KerF M n (fun j => w j - cvec (gE M n) c j) := by
        have s0 := dt_sub' (M := M) (u := w) (v := fun j => w j - cvec (gE M n) c j) (w := cvec (gE M n) c) (r := 0) n.toNat (fun j _ => by omega)
        have s1 := dt_sub' (M := M) (u := w) (v := fun j => w j - cvec (gE M n) c j) (w := cvec (gE M n) c) (r := 1) n.toNat (fun j _ => by omega)
        rw [hw.1, kc.1] at s0
        rw [hw.2, kc.2] at s1
        exact ⟨by omega, by omega⟩
      obtain ⟨len, R, C, d1, d2, d3, d4, d5⟩ := ih _ kw (by rw [sub]; omega)
      rw [sub] at d4
      refine ⟨len + 1, fun i => (match i with | 0 => w | q + 1 => R q), fun i => (match i with | 0 => c | q + 1 => C q), fun _ _ => rfl, fun i hi => ?_, fun j hj => d3 j hj, by omega, fun i hi j hj => ?_⟩
      · cases i with
        | zero =>
          refine ⟨⟨q0, by show c < _; omega⟩, ⟨q2, q3⟩, fun j hj => ?_⟩
          show R 0 j = w j - cvec (gE M n) c j
          rw [d1 j hj]
        | succ q => exact d2 q (by omega)
      · cases i with
        | zero => exact c1_rf _
        | succ q => exact c1_tr (d5 q (by omega) j hj) (c1_sub (q2 j hj))
    · refine ⟨0, fun _ => w, fun _ => 0, fun _ _ => rfl, fun i hi => absurd hi (Nat.not_lt_zero _), fun j hj => ?_, asum_0 _, fun i hi j hj => c1_rf _⟩
      apply Classical.byContradiction
      intro h
      exact z ⟨j, hj.1, hj.2, h⟩
theorem lr_fc12 {d n0 : Nat} {Q : PQ} {I : IE} {F : FE} {e s : Int} {u v : Int → Int} (hd : 2 ≤ d) (he : 0 ≤ e ∧ e < 160) (hs : s = 1 ∨ s = -1) (hu : ∀ j, 0 ≤ j ∧ j < 4 → F 4 (4 * e + j) = u j ∧ -100 ≤ u j ∧ u j ≤ 100) (hv : ∀ j, 0 ≤ j ∧ j < 4 → F 14 j = v j ∧ -100 ≤ v j ∧ v j ≤ 100)
    (K1 : c4 (fun j => s * u j) v 4 → Q (some (.inl (s * (e + 1)))) shM I F) (K0 : ¬ c4 (fun j => s * u j) v 4 → WS m8_firstConformal d 0 0 n0 Q 0 0 12 [lr 0, li e, li (s + -2)] [] shM I F) : WS m8_firstConformal d 0 0 n0 Q 0 0 12 [lr 0, li e, li s] [] shM I F := by
  have hs2 : -200 ≤ s * (e + 1) ∧ s * (e + 1) ≤ 200 := by rcases hs with rfl | rfl <;> omega
  refine w_iload i8_firstConformal_12 rfl ?_
  refine w_const i8_firstConformal_13 ?_
  refine w_icmplt i8_firstConformal_14 (fun h_ => absurd h_ (by omega)) (fun h14 => ?_)
  refine w_aload i8_firstConformal_17 rfl ?_
  refine w_iload i8_firstConformal_18 rfl ?_
  refine w_iload i8_firstConformal_19 rfl ?_
  refine w_aload i8_firstConformal_20 rfl ?_
  refine w_getr i8_firstConformal_21 rfl rfl ?_
  refine w_const i8_firstConformal_24 ?_
  refine w_cVP i8_firstConformal_25 f8_isConformal v8_isConformal (r_isConformal (N := 4) (by omega) he hs (by decide) rfl (by decide) hu (fun j hj => by rw [Int.zero_add]; exact hv j hj)) rfl rfl (by decide) rfl rfl (Nat.le_of_ble_eq_true rfl) (by omega) (fun w hw => ?_)
  refine w_ifeq i8_firstConformal_28 (fun h28 => ?_) (fun h28 => ?_)
  · refine w_ii2 i8_firstConformal_37 (by omega) ?_
    refine w_goto i8_firstConformal_40 ?_
    refine K0 ?_
    rcases hw with ⟨g, -⟩ | ⟨-, g⟩
    · omega
    · exact g
  · refine w_iload i8_firstConformal_31 rfl ?_
    refine w_iload i8_firstConformal_32 rfl ?_
    refine w_const i8_firstConformal_33 ?_
    refine w_iadd i8_firstConformal_34 (by omega) ?_
    refine w_imul i8_firstConformal_35 (by omega) ?_
    refine w_iret i8_firstConformal_36 (Or.inl rfl) ⟨Nat.le_refl _, Nat.le_refl _⟩ ?_
    refine K1 ?_
    rcases hw with ⟨-, g⟩ | ⟨g, -⟩
    · exact g
    · omega
/-- the first code that fits -/
def FcP (n k : Int) (E : Int → Int → Int) (r : Int → Int) (v : Int) : Prop := (∃ c, (0 ≤ c ∧ c < 2 * k) ∧ isF n E r c ∧ v = tval c) ∨ (v = 0 ∧ ∀ c, 0 ≤ c ∧ c < 2 * k → ¬ cf n (cvec E c) r)
theorem lr_fc2 {d n0 : Nat} {Q : PQ} {I : IE} {F : FE} {n k : Int} {E : Int → Int → Int} {r : Int → Int} (hd : 2 ≤ d) (hn : 0 ≤ n ∧ n ≤ 4) (h5 : I 0 5 = k) (hk : 0 ≤ k ∧ k ≤ 15) (hE : ∀ e, 0 ≤ e ∧ e < k → (∀ j, n ≤ j ∧ j < 4 → E e j = 0) ∧ ∀ j, 0 ≤ j ∧ j < 4 → F 4 (4 * e + j) = E e j ∧ -100 ≤ E e j ∧ E e j ≤ 100) (hr : ∀ j, 0 ≤ j ∧ j < 4 → F 14 j = r j ∧ -100 ≤ r j ∧ r j ≤ 100)
    (K : ∀ v, FcP n k E r v → Q (some (.inl v)) shM I F) :
    ∀ (w e : Nat) (x : Option AV), (e + w : Int) = k → (∀ c, 0 ≤ c ∧ c < 2 * (e : Int) → ¬ cf n (cvec E c) r) → WS m8_firstConformal d 0 0 n0 Q 0 0 2 [lr 0, li e, x] [] shM I F := by
  intro w
  induction w with
  | zero =>
    intro e x he hno
    have ee : (e : Int) = k := by omega
    refine w_iload i8_firstConformal_2 rfl ?_
    refine w_aload i8_firstConformal_3 rfl ?_
    refine w_get i8_firstConformal_4 rfl rfl ?_
    refine w_icmpge i8_firstConformal_7 (fun h7 => ?_) (fun h_ => absurd h_ (by omega))
    refine w_const i8_firstConformal_49 ?_
    refine w_iret i8_firstConformal_50 (Or.inl rfl) ⟨Nat.le_refl _, Nat.le_refl _⟩ ?_
    exact K 0 (Or.inr ⟨rfl, fun c hc => hno c (by omega)⟩)
  | succ w ih =>
    intro e x he hno
    obtain ⟨z, hu⟩ := hE e (by omega)
    have cv0 : ∀ j, cvec E (2 * (e : Int)) j = 1 * E e j := fun j => by unfold cvec; rw [if_pos (by omega), show 2 * (e : Int) / 2 = e by omega, Int.one_mul]
    have cv1 : ∀ j, cvec E (2 * (e : Int) + 1) j = -1 * E e j := fun j => by unfold cvec ng; rw [if_neg (by omega), show (2 * (e : Int) + 1) / 2 = e by omega, Int.neg_mul, Int.one_mul]
    have t0 : (1 : Int) * ((e : Int) + 1) = tval (2 * (e : Int)) := by unfold tval; rw [if_pos (by omega)]; omega
    have t1 : (-1 : Int) * ((e : Int) + 1) = tval (2 * (e : Int) + 1) := by unfold tval; rw [if_neg (by omega)]; omega
    have i0 : c4 (fun j => 1 * E e j) r 4 ↔ cf n (cvec E (2 * (e : Int))) r := by
      rw [cf_c4 hn (fun j hj => by rw [z j hj]; rfl)]
      exact ⟨cf_ext (fun j _ => (cv0 j).symm) (fun _ _ => rfl), cf_ext (fun j _ => cv0 j) (fun _ _ => rfl)⟩
    have i1 : c4 (fun j => -1 * E e j) r 4 ↔ cf n (cvec E (2 * (e : Int) + 1)) r := by
      rw [cf_c4 hn (fun j hj => by rw [z j hj]; rfl)]
      exact ⟨cf_ext (fun j _ => (cv1 j).symm) (fun _ _ => rfl), cf_ext (fun j _ => cv1 j) (fun _ _ => rfl)⟩
    have ek : ((e + 1 : Nat) : Int) = (e : Int) + 1 := by omega
    refine w_iload i8_firstConformal_2 rfl ?_
    refine w_aload i8_firstConformal_3 rfl ?_
    refine w_get i8_firstConformal_4 rfl rfl ?_
    refine w_icmpge i8_firstConformal_7 (fun h_ => absurd h_ (by omega)) (fun h7 => ?_)
    refine w_const i8_firstConformal_10 ?_
    refine w_is2 i8_firstConformal_11 ?_
    refine lr_fc12 hd (by omega) (Or.inl rfl) hu hr (fun g => ?_) (fun g => ?_)
    · rw [t0]
      exact K _ (Or.inl ⟨_, by omega, ⟨i0.mp g, fun c' hc' => hno c' (by omega)⟩, rfl⟩)
    · refine lr_fc12 (s := -1) hd (by omega) (Or.inr rfl) hu hr (fun g2 => ?_) (fun g2 => ?_)
      · rw [t1]
        refine K _ (Or.inl ⟨_, by omega, ⟨i1.mp g2, fun c' hc' => ?_⟩, rfl⟩)
        by_cases c : c' = 2 * (e : Int)
        · rw [c]; exact fun h => g (i0.mpr h)
        · exact hno c' (by omega)
      · refine w_iload i8_firstConformal_12 rfl ?_
        refine w_const i8_firstConformal_13 ?_
        refine w_icmplt i8_firstConformal_14 (fun _ => ?_) (fun h => absurd h (by decide))
        refine w_ii1 i8_firstConformal_43 (by omega) ?_
        refine w_goto i8_firstConformal_46 ?_
        rw [← ek]
        refine ih (e + 1) _ (by omega) (fun c hc => ?_)
        by_cases c1 : c = 2 * (e : Int)
        · rw [c1]; exact fun h => g (i0.mpr h)
        · by_cases c2 : c = 2 * (e : Int) + 1
          · rw [c2]; exact fun h => g2 (i1.mpr h)
          · exact hno c (by omega)
theorem r_firstConformal {d : Nat} {I : IE} {F : FE} {n k : Int} {E : Int → Int → Int} {r : Int → Int} (hd : 2 ≤ d) (hn : 0 ≤ n ∧ n ≤ 4) (h5 : I 0 5 = k) (hk : 0 ≤ k ∧ k ≤ 15) (hE : ∀ e, 0 ≤ e ∧ e < k → (∀ j, n ≤ j ∧ j < 4 → E e j = 0) ∧ ∀ j, 0 ≤ j ∧ j < 4 → F 4 (4 * e + j) = E e j ∧ -100 ≤ E e j ∧ E e j ≤ 100) (hr : ∀ j, 0 ≤ j ∧ j < 4 → F 14 j = r j ∧ -100 ≤ r j ∧ r j ≤ 100) : MP m8_firstConformal d shM [rv 0] I F (FcP n k E r) := by
  refine MS_of (ls := [lr 0, lu, lu]) f8_firstConformal rfl rfl (Nat.le_of_ble_eq_true rfl) ?_
  refine w_const i8_firstConformal_0 ?_
  refine w_is1 i8_firstConformal_1 ?_
  exact lr_fc2 hd hn h5 hk hE hr (fun v hv => ⟨rfl, v, rfl, hv, rfl, rfl⟩) k.toNat 0 _ (by omega) (fun c hc => absurd hc (by omega))
theorem lr_dc2 {d n0 : Nat} {Q : PQ} {I : IE} {F : FE} {x : Int}
    (K : ∀ F', (∀ j, 0 ≤ j ∧ j < 4 → F' 14 j = F 1 (10 + j)) → (∀ a, a ≠ 14 → F' a = F a) → WS m8_decompose d 0 0 n0 Q 0 0 28 [lr 0, li x, li 4, lu, lu] [] shM I F') :
    ∀ (m k : Nat) (F' : FE), k + m = 4 → (∀ j, 0 ≤ j ∧ j < (k : Int) → F' 14 j = F 1 (10 + j)) → (∀ a, a ≠ 14 → F' a = F a) → WS m8_decompose d 0 0 n0 Q 0 0 2 [lr 0, li x, li k, lu, lu] [] shM I F' := by
  intro m
  induction m with
  | zero =>
    intro k F' hk h1 h2
    obtain rfl : k = 4 := by omega
    refine w_iload i8_decompose_2 rfl ?_
    refine w_const i8_decompose_3 ?_
    refine w_icmpge i8_decompose_4 (fun h4 => ?_) (fun h_ => absurd h_ (by omega))
    exact K F' h1 h2
  | succ m ih =>
    intro k F' hk h1 h2
    have e1 : F' 1 = F 1 := h2 1 (by decide)
    refine w_iload i8_decompose_2 rfl ?_
    refine w_const i8_decompose_3 ?_
    refine w_icmpge i8_decompose_4 (fun h_ => absurd h_ (by omega)) (fun h4 => ?_)
    refine w_aload i8_decompose_7 rfl ?_
    refine w_getr i8_decompose_8 rfl rfl ?_
    refine w_iload i8_decompose_11 rfl ?_
    refine w_aload i8_decompose_12 rfl ?_
    refine w_getr i8_decompose_13 rfl rfl ?_
    refine w_const i8_decompose_16 ?_
    refine w_iload i8_decompose_18 rfl ?_
    refine w_iadd i8_decompose_19 (by omega) ?_
    refine w_iald i8_decompose_20 rfl (by omega) ?_
    refine w_iast i8_decompose_21 rfl (by omega) ?_
    refine w_ii2 i8_decompose_22 (by omega) ?_
    refine w_goto i8_decompose_25 ?_
    refine ih (k + 1) _ (by omega) (fun j hj => ?_) (fun a ha => ?_)
    · simp only [upF, true_and]
      by_cases c : j = k
      · rw [if_pos c, c, e1]
      · rw [if_neg c]; exact h1 j (by omega)
    · funext j
      simp only [upF, ha, false_and, if_false]
      rw [h2 a ha]
theorem lr_dc56 {d n0 : Nat} {Q : PQ} {I : IE} {F : FE} {x i c : Int} {u : Int → Int} (hc : 0 ≤ c ∧ c < 30) (hu : ∀ j, 0 ≤ j ∧ j < 4 → F 4 (4 * (c / 2) + j) = u j ∧ -9 ≤ u j ∧ u j ≤ 9) (hr : ∀ j, 0 ≤ j ∧ j < 4 → -100 ≤ F 14 j ∧ F 14 j ≤ 100)
    (K : ∀ y F', (∀ j, 0 ≤ j ∧ j < 4 → F' 14 j = F 14 j - (if c % 2 = 0 then u j else -u j)) → (∀ a, a ≠ 14 → F' a = F a) → WS m8_decompose d 0 0 n0 Q 0 0 113 [lr 0, li x, li i, li (tval c), y] [] shM I F') :
    ∀ (m k : Nat) (F' : FE), k + m = 4 → (∀ j, 0 ≤ j ∧ j < (k : Int) → F' 14 j = F 14 j - (if c % 2 = 0 then u j else -u j)) → (∀ j, (k : Int) ≤ j → F' 14 j = F 14 j) → (∀ a, a ≠ 14 → F' a = F a) → WS m8_decompose d 0 0 n0 Q 0 0 56 [lr 0, li x, li i, li (tval c), li k] [] shM I F' := by
  intro m
  induction m with
  | zero =>
    intro k F' hk h1 h2 h3
    obtain rfl : k = 4 := by omega
    refine w_iload i8_decompose_56 rfl ?_
    refine w_const i8_decompose_58 ?_
    refine w_icmpge i8_decompose_59 (fun h59 => ?_) (fun h_ => absurd h_ (by omega))
    exact K _ F' h1 h3
  | succ m ih =>
    intro k F' hk h1 h2 h3
    obtain ⟨u1, u2⟩ := hu k (by omega)
    have rk := hr k (by omega)
    have f14 := h2 k (by omega)
    have e4 : F' 4 = F 4 := h3 4 (by decide)
    have step : ∀ v, v = F 14 k - (if c % 2 = 0 then u k else -u k) → WS m8_decompose d 0 0 n0 Q 0 0 56 [lr 0, li x, li i, li (tval c), li ((k : Int) + 1)] [] shM I (upF F' 14 (k : Int) v) := fun v hv => by
      refine ih (k + 1) _ (by omega) (fun j hj => ?_) (fun j hj => ?_) (fun a ha => ?_)
      · simp only [upF, true_and]
        by_cases c1 : j = k
        · rw [if_pos c1, c1]; exact hv
        · rw [if_neg c1]; exact h1 j (by omega)
      · simp only [upF, true_and]
        rw [if_neg (by omega)]; exact h2 j (by omega)
      · funext j
        simp only [upF, ha, false_and, if_false]
        rw [h3 a ha]
    by_cases ev : c % 2 = 0
    · have tv : tval c = c / 2 + 1 := by unfold tval; rw [if_pos ev]
      have ix : 4 * (tval c - 1) + (k : Int) = 4 * (c / 2) + k := by omega
      refine w_iload i8_decompose_56 rfl ?_
      refine w_const i8_decompose_58 ?_
      refine w_icmpge i8_decompose_59 (fun h_ => absurd h_ (by omega)) (fun h59 => ?_)
      refine w_aload i8_decompose_62 rfl ?_
      refine w_getr i8_decompose_63 rfl rfl ?_
      refine w_iload i8_decompose_66 rfl ?_
      refine w_dup2 i8_decompose_68 ?_
      refine w_iald i8_decompose_69 rfl (by omega) ?_
      refine w_iload i8_decompose_70 rfl ?_
      refine w_ifle i8_decompose_71 (fun h_ => absurd h_ (by omega)) (fun h71 => ?_)
      refine w_aload i8_decompose_74 rfl ?_
      refine w_getr i8_decompose_75 rfl rfl ?_
      refine w_const i8_decompose_78 ?_
      refine w_iload i8_decompose_79 rfl ?_
      refine w_const i8_decompose_80 ?_
      refine w_isub i8_decompose_81 (by omega) ?_
      refine w_imul i8_decompose_82 (by omega) ?_
      refine w_iload i8_decompose_83 rfl ?_
      refine w_iadd i8_decompose_85 (by omega) ?_
      rw [ix]
      refine w_iald i8_decompose_86 rfl (by omega) ?_
      rw [e4, u1]
      refine w_goto i8_decompose_87 ?_
      refine w_isub i8_decompose_105 ((by rw [f14]; constructor <;> omega)) ?_
      refine w_iast i8_decompose_106 rfl (by omega) ?_
      refine w_ii4 i8_decompose_107 (by omega) ?_
      refine w_goto i8_decompose_110 ?_
      refine step _ ?_
      rw [if_pos ev, f14]
    · have tv : tval c = -(c / 2 + 1) := by unfold tval; rw [if_neg ev]
      have ix : 4 * (-tval c - 1) + (k : Int) = 4 * (c / 2) + k := by omega
      refine w_iload i8_decompose_56 rfl ?_
      refine w_const i8_decompose_58 ?_
      refine w_icmpge i8_decompose_59 (fun h_ => absurd h_ (by omega)) (fun h59 => ?_)
      refine w_aload i8_decompose_62 rfl ?_
      refine w_getr i8_decompose_63 rfl rfl ?_
      refine w_iload i8_decompose_66 rfl ?_
      refine w_dup2 i8_decompose_68 ?_
      refine w_iald i8_decompose_69 rfl (by omega) ?_
      refine w_iload i8_decompose_70 rfl ?_
      refine w_ifle i8_decompose_71 (fun h71 => ?_) (fun h_ => absurd h_ (by omega))
      refine w_aload i8_decompose_90 rfl ?_
      refine w_getr i8_decompose_91 rfl rfl ?_
      refine w_const i8_decompose_94 ?_
      refine w_iload i8_decompose_95 rfl ?_
      refine w_ineg i8_decompose_96 (by omega) ?_
      refine w_const i8_decompose_97 ?_
      refine w_isub i8_decompose_98 (by omega) ?_
      refine w_imul i8_decompose_99 (by omega) ?_
      refine w_iload i8_decompose_100 rfl ?_
      refine w_iadd i8_decompose_102 (by omega) ?_
      rw [ix]
      refine w_iald i8_decompose_103 rfl (by omega) ?_
      rw [e4, u1]
      refine w_ineg i8_decompose_104 (by omega) ?_
      refine w_isub i8_decompose_105 ((by rw [f14]; constructor <;> omega)) ?_
      refine w_iast i8_decompose_106 rfl (by omega) ?_
      refine w_ii4 i8_decompose_107 (by omega) ?_
      refine w_goto i8_decompose_110 ?_
      refine step _ ?_
      rw [if_neg ev, f14]
theorem isF_uniq {n : Int} {E : Int → Int → Int} {r : Int → Int} {c c' : Int} (hc : 0 ≤ c) (hc' : 0 ≤ c') (h : isF n E r c) (g : isF n E r c') : c = c' := by
  rcases Int.lt_trichotomy c c' with a | a | a
  · exact absurd h.1 (g.2 c ⟨hc, a⟩)
  · exact a
  · exact absurd g.1 (h.2 c' ⟨hc', a⟩)
