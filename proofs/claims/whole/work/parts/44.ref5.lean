theorem lexd {w : Int} (hw : 2 ≤ w) : ∀ (k : Nat) (c c' : Int), 0 ≤ c → c < c' → c' < w ^ k → ∃ i : Nat, i < k ∧ (∀ j : Nat, i < j → j < k → rst w c j % w = rst w c' j % w) ∧ rst w c i % w < rst w c' i % w
  | 0, c, c', h0, h1, h2 => by simp at h2; omega
  | k + 1, c, c', h0, h1, h2 => by
    have hp : w ^ (k + 1) = w * w ^ k := by rw [Int.pow_succ, Int.mul_comm]
    have q1 := Int.mul_ediv_add_emod c w
    have q2 := Int.mul_ediv_add_emod c' w
    have m1 := Int.emod_nonneg c (show w ≠ 0 by omega)
    have m2 := Int.emod_lt_of_pos c (show 0 < w by omega)
    have m3 := Int.emod_nonneg c' (show w ≠ 0 by omega)
    have m4 := Int.emod_lt_of_pos c' (show 0 < w by omega)
    have hle : c / w ≤ c' / w := Int.ediv_le_ediv (by omega) (by omega)
    by_cases e : c / w < c' / w
    · obtain ⟨i, i1, i2, i3⟩ := lexd hw k (c / w) (c' / w) (Int.ediv_nonneg h0 (by omega)) e (Int.ediv_lt_of_lt_mul (by omega) (by rw [Int.mul_comm]; omega))
      refine ⟨i + 1, by omega, fun j hj hk => ?_, by rw [rst_succ, rst_succ]; exact i3⟩
      cases j with
      | zero => omega
      | succ j => rw [rst_succ, rst_succ]; exact i2 j (by omega) (by omega)
    · have e' : c / w = c' / w := by omega
      rw [e'] at q1
      refine ⟨0, by omega, fun j hj hk => ?_, ?_⟩
      · cases j with
        | zero => omega
        | succ j => rw [rst_succ, rst_succ, e']
      · show c % w < c' % w
        omega
/-- lexicographically greater -/
def Lxg (u v : Int → Int) : Prop := ∃ p, (0 ≤ p ∧ p < 4) ∧ (∀ q, 0 ≤ q ∧ q < p → u q = v q) ∧ v p < u p
theorem DgR.lx {n b : Int} {z y : Int → Int} {c c' : Nat} (hb : 1 ≤ b) (hn : 2 ≤ n ∧ n ≤ 4) (hc : c < c') (hc' : (c' : Int) < (2 * b + 1) ^ (n - 1).toNat) (h : DgR n b z c) (g : DgR n b y c') : Lxg z y := by
  obtain ⟨i, i1, i2, i3⟩ := lexd (w := 2 * b + 1) (by omega) _ (c : Int) (c' : Int) (by omega) (by omega) hc'
  refine ⟨n - 2 - i, by omega, fun q hq => ?_, by rw [h i (by omega), g i (by omega)]; omega⟩
  have := i2 (n - 2 - q).toNat (by omega) (by omega)
  have a1 := h (n - 2 - q).toNat (by omega)
  have a2 := g (n - 2 - q).toNat (by omega)
  rw [show n - 2 - ((n - 2 - q).toNat : Int) = q by omega] at a1 a2
  omega
def elast (n : Int) : Int → Int := fun j => if j = n - 1 then 1 else 0
/-- the whole list -/
def KFin (M : Int → Int) (n b m : Int) (K : Int → Int → Int) : Prop := (0 ≤ m ∧ m ≤ 701) ∧ (∀ i, 0 ≤ i ∧ i < m → Cnd M n b (K i) ∧ (lcz M n → K i (n - 1) = 0 ∨ ∀ j, 0 ≤ j ∧ j < 4 → K i j = elast n j)) ∧ (∀ i j, 0 ≤ i ∧ i < j ∧ j < m → Lxg (K i) (K j)) ∧ (∀ z, Cnd M n b z → (lcz M n → z (n - 1) = 0) → ∃ i, 0 ≤ i ∧ i < m ∧ ∀ j, 0 ≤ j ∧ j < 4 → K i j = z j) ∧ (lcz M n → ∃ i, 0 ≤ i ∧ i < m ∧ ∀ j, 0 ≤ j ∧ j < 4 → K i j = elast n j)
theorem elast_Cnd {M : Int → Int} {n b : Int} (hn : 2 ≤ n ∧ n ≤ 4) (hb : 1 ≤ b) (h : lcz M n) : Cnd M n b (elast n) := by
  obtain ⟨l, hl⟩ : ∃ l : Nat, (l : Int) + 1 = n := ⟨(n - 1).toNat, by omega⟩
  have el : n - 1 = (l : Int) := by omega
  have d0 : ∀ r, dt M (fun _ => 0) r l = 0 := fun r => by
    have key : ∀ k : Nat, dt M (fun _ => 0) r k = 0 := by
      intro k
      induction k with
      | zero => rfl
      | succ k ih => simp only [dt]; rw [ih, Int.mul_zero]; rfl
    exact key l
  have e : elast n = ups (fun _ => 0) l 1 := by funext j; unfold elast ups; rw [el]
  obtain ⟨h0, h1⟩ := h
  rw [el] at h0 h1
  refine ⟨by rw [e, ker_last hl, d0, d0, h0, h1]; exact ⟨rfl, rfl⟩, fun j _ => ?_, ⟨n - 1, by omega, by omega, fun i hi => ?_, ?_⟩, fun j hj => ?_⟩
  · unfold elast; split <;> omega
  · unfold elast; rw [if_neg (by omega)]
  · unfold elast; rw [if_pos rfl]; decide
  · unfold elast; rw [if_neg (by omega)]
theorem DgR.all {n b : Int} {z : Int → Int} (hb : 1 ≤ b) (hn : 2 ≤ n ∧ n ≤ 4) (hz : ∀ j, 0 ≤ j ∧ j < n → -b ≤ z j ∧ z j ≤ b) : ∃ c : Nat, (c : Int) < (2 * b + 1) ^ (n - 1).toNat ∧ DgR n b z c := by
  obtain ⟨c, c0, c1, c2⟩ := dg_ex (w := 2 * b + 1) (by omega) (n - 1).toNat (fun i => b - z (n - 2 - i)) (fun i hi => by have := hz (n - 2 - i) (by omega); omega)
  refine ⟨c.toNat, by omega, fun i hi => ?_⟩
  rw [show ((c.toNat : Nat) : Int) = c by omega, c2 i (by omega)]
  omega
theorem KLI.fin {M : Int → Int} {n r b : Int} {c : Nat} {m : Int} {K : Int → Int → Int} (hb : 1 ≤ b) (hn : 2 ≤ n ∧ n ≤ 4) (hP : PVq M n r b) (h : KLI M n b c m K) (hc : (c : Int) = (2 * b + 1) ^ (n - 1).toNat) : (¬ lcz M n → KFin M n b m K) ∧ ∀ K', lcz M n → (∀ i, 0 ≤ i ∧ i < m → ∀ j, 0 ≤ j ∧ j < 4 → K' i j = K i j) → (∀ j, 0 ≤ j ∧ j < 4 → K' m j = elast n j) → KFin M n b (m + 1) K' := by
  have cap := h.cap hn hP (by omega)
  obtain ⟨h0, h1, h2, h3⟩ := id h
  have lx : ∀ i j, 0 ≤ i ∧ i < j ∧ j < m → Lxg (K i) (K j) := fun i j hij => by
    obtain ⟨ci, cj, a1, a2, a3, a4⟩ := h2 i j hij
    exact DgR.lx hb hn a1 (by omega) a3 a4
  have comp : ∀ z, Cnd M n b z → (lcz M n → z (n - 1) = 0) → ∃ i, 0 ≤ i ∧ i < m ∧ ∀ j, 0 ≤ j ∧ j < 4 → K i j = z j := fun z hz hl => by
    obtain ⟨c', c1, c2⟩ := DgR.all hb hn hz.2.1
    exact h3 z c' (by omega) c2 hz hl
  refine ⟨fun hl => ⟨⟨h0, by omega⟩, fun i hi => ⟨(h1 i hi).1, fun g => absurd g hl⟩, lx, comp, fun g => absurd g hl⟩, fun K' hl e e2 => ?_⟩
  refine ⟨⟨by omega, by omega⟩, fun i hi => ?_, fun i j hij => ?_, fun z hz hlz => ?_, fun _ => ⟨m, h0, by omega, e2⟩⟩
  · by_cases ci : i = m
    · subst ci
      exact ⟨(elast_Cnd hn hb hl).ext ⟨by omega, hn.2⟩ (fun j hj => (e2 j hj).symm), fun _ => Or.inr e2⟩
    · have hi' : 0 ≤ i ∧ i < m := by omega
      exact ⟨(h1 i hi').1.ext ⟨by omega, hn.2⟩ (fun j hj => (e i hi' j hj).symm), fun g => Or.inl (by rw [e i hi' _ (by omega)]; exact (h1 i hi').2.1 g)⟩
  · by_cases cj : j = m
    · subst cj
      have hi' : 0 ≤ i ∧ i < j := by omega
      obtain ⟨k, k0, k1, k2, k3⟩ := (h1 i hi').1.2.2.1
      have kz := (h1 i hi').2.1 hl
      have kn : k ≠ n - 1 := fun g => by rw [g, kz] at k3; omega
      refine ⟨k, by omega, fun q hq => ?_, ?_⟩
      · rw [e i hi' q (by omega), e2 q (by omega), k2 q hq]
        unfold elast; rw [if_neg (by omega)]
      · rw [e i hi' k (by omega), e2 k (by omega)]
        unfold elast; rw [if_neg (by omega)]; exact k3
    · obtain ⟨p, p0, p1, p2⟩ := lx i j (by omega)
      exact ⟨p, p0, fun q hq => by rw [e i (by omega) q (by omega), e j (by omega) q (by omega)]; exact p1 q hq, by rw [e i (by omega) p (by omega), e j (by omega) p (by omega)]; exact p2⟩
  · obtain ⟨i, i0, i1, i2⟩ := comp z hz hlz
    exact ⟨i, i0, by omega, fun j hj => by rw [e i ⟨i0, i1⟩ j hj]; exact i2 j hj⟩
/-- row i of the kernel's list -/
def kr (F : FE) (i : Int) : Int → Int := fun j => F 5 (4 * i + j)
theorem lr_lkA {d n0 : Nat} {Q : PQ} {I : IE} {F : FE} {b n w : Int} (hn : 2 ≤ n ∧ n ≤ 4) (hw : w = 3 ∨ w = 7 ∨ w = 37)
    (K : WS m8_layKernel d 0 0 n0 Q 0 0 37 [lr 0, li b, li n, li w, li (w ^ (n - 1).toNat), li n, lu, lu] [] shM I F) :
    ∀ (m k : Nat), (k + 1 + m : Int) = n → WS m8_layKernel d 0 0 n0 Q 0 0 19 [lr 0, li b, li n, li w, li (w ^ k), li (k + 1 : Int), lu, lu] [] shM I F := by
  have hpow : ∀ j : Nat, j ≤ 3 → 1 ≤ w ^ j ∧ w ^ j ≤ 50653 := fun j hj => by
    rcases (show j = 0 ∨ j = 1 ∨ j = 2 ∨ j = 3 by omega) with rfl | rfl | rfl | rfl <;> rcases hw with rfl | rfl | rfl <;> decide
  intro m
  induction m with
  | zero =>
    intro k hk
    have ek : (k : Int) + 1 = n := by omega
    refine w_iload i8_layKernel_19 rfl ?_
    refine w_iload i8_layKernel_21 rfl ?_
    refine w_icmpge i8_layKernel_22 (fun h22 => ?_) (fun h_ => absurd h_ (by omega))
    rw [ek, show k = (n - 1).toNat by omega]
    exact K
  | succ m ih =>
    intro k hk
    have h1 := hpow k (by omega)
    have h2 := hpow (k + 1) (by omega)
    have e : w ^ k * w = w ^ (k + 1) := (Int.pow_succ w k).symm
    refine w_iload i8_layKernel_19 rfl ?_
    refine w_iload i8_layKernel_21 rfl ?_
    refine w_icmpge i8_layKernel_22 (fun h_ => absurd h_ (by omega)) (fun h22 => ?_)
    refine w_iload i8_layKernel_25 rfl ?_
    refine w_iload i8_layKernel_27 rfl ?_
    refine w_imul i8_layKernel_28 ((by rw [e]; constructor <;> omega)) ?_
    rw [e]
    refine w_is4 i8_layKernel_29 ?_
    refine w_ii5 i8_layKernel_31 (by omega) ?_
    refine w_goto i8_layKernel_34 ?_
    exact ih (k + 1) (by omega)
theorem lr_lk61 {d n0 : Nat} {Q : PQ} {I : IE} {F : FE} {b n w T : Int} {c : Nat} (hn : 2 ≤ n ∧ n ≤ 4) (hw : w = 2 * b + 1) (hb : 1 ≤ b ∧ b ≤ 18) (hc : (c : Int) ≤ 60000)
    (K : ∀ x y F', (∀ i : Nat, (i : Int) + 1 < n → F' 6 (n - 2 - i) = b - rst w c i % w) → (∀ a, a ≠ 6 → F' a = F a) → WS m8_layKernel d 0 0 n0 Q 0 0 91 [lr 0, li b, li n, li w, li T, li c, x, y] [] shM I F') :
    ∀ (m i : Nat) (F' : FE), (i + 1 + m : Int) = n → (∀ i' : Nat, i' < i → F' 6 (n - 2 - i') = b - rst w c i' % w) → (∀ a, a ≠ 6 → F' a = F a) → WS m8_layKernel d 0 0 n0 Q 0 0 61 [lr 0, li b, li n, li w, li T, li c, li (rst w c i), li (n - 2 - i)] [] shM I F' := by
  intro m
  induction m with
  | zero =>
    intro i F' hi h1 h2
    refine w_iload i8_layKernel_61 rfl ?_
    refine w_iflt i8_layKernel_63 (fun h63 => ?_) (fun h_ => absurd h_ (by omega))
    exact K _ _ F' (fun i' hi' => h1 i' (by omega)) h2
  | succ m ih =>
    intro i F' hi h1 h2
    have hr := rst_b (w := w) (by omega) (B := 60000) ⟨by omega, hc⟩ i
    have hr1 := rst_b (w := w) (by omega) (B := 60000) ⟨by omega, hc⟩ (i + 1)
    have et : (rst w c i).tmod w = rst w c i % w := Int.tmod_eq_emod_of_nonneg hr.1
    have ed : (rst w c i).tdiv w = rst w c (i + 1) := Int.tdiv_eq_ediv_of_nonneg hr.1
    have hm1 := Int.emod_nonneg (rst w c i) (show w ≠ 0 by omega)
    have hm2 := Int.emod_lt_of_pos (rst w c i) (show 0 < w by omega)
    have e7 : n - 2 - (i : Int) + -1 = n - 2 - ((i + 1 : Nat) : Int) := by omega
    refine w_iload i8_layKernel_61 rfl ?_
    refine w_iflt i8_layKernel_63 (fun h_ => absurd h_ (by omega)) (fun h63 => ?_)
    refine w_aload i8_layKernel_66 rfl ?_
    refine w_getr i8_layKernel_67 rfl rfl ?_
    refine w_iload i8_layKernel_70 rfl ?_
    refine w_iload i8_layKernel_72 rfl ?_
    refine w_iload i8_layKernel_73 rfl ?_
    refine w_iload i8_layKernel_75 rfl ?_
    refine w_irem i8_layKernel_76 (by omega) ((by rw [et]; constructor <;> omega)) ?_
    rw [et]
    refine w_isub i8_layKernel_77 (by omega) ?_
    refine w_iast i8_layKernel_78 rfl (by omega) ?_
    refine w_iload i8_layKernel_79 rfl ?_
    refine w_iload i8_layKernel_81 rfl ?_
    refine w_idiv i8_layKernel_82 (by omega) ((by rw [ed]; constructor <;> omega)) ?_
    rw [ed]
    refine w_is6 i8_layKernel_83 ?_
    refine w_ii7 i8_layKernel_85 (by omega) ?_
    refine w_goto i8_layKernel_88 ?_
    rw [e7]
    refine ih (i + 1) _ (by omega) (fun i' hi' => ?_) (fun a ha => ?_)
    · simp only [upF, true_and]
      by_cases e : i' = i
      · rw [e, if_pos rfl]
      · rw [if_neg (by omega)]; exact h1 i' (by omega)
    · funext j
      simp only [upF, ha, false_and, if_false]
      rw [h2 a ha]
theorem lr_lk96 {d n0 : Nat} {Q : PQ} {I : IE} {F : FE} {b n w T : Int} {c : Nat} {x : Option AV} (hn : 2 ≤ n ∧ n ≤ 4)
    (K : ∀ F', (∀ j, 0 ≤ j ∧ j < n - 1 → F' 6 j = F 6 j) → (∀ j, n - 1 ≤ j ∧ j < 4 → F' 6 j = 0) → (∀ a, a ≠ 6 → F' a = F a) → WS m8_layKernel d 0 0 n0 Q 0 0 116 [lr 0, li b, li n, li w, li T, li c, x, li 4] [] shM I F') :
    ∀ (m k : Nat) (F' : FE), k + m = 4 → n - 1 ≤ (k : Int) → (∀ j, 0 ≤ j ∧ j < n - 1 → F' 6 j = F 6 j) → (∀ j, n - 1 ≤ j ∧ j < (k : Int) → F' 6 j = 0) → (∀ a, a ≠ 6 → F' a = F a) → WS m8_layKernel d 0 0 n0 Q 0 0 96 [lr 0, li b, li n, li w, li T, li c, x, li k] [] shM I F' := by
  intro m
  induction m with
  | zero =>
    intro k F' hk hkn h1 h2 h3
    obtain rfl : k = 4 := by omega
    refine w_iload i8_layKernel_96 rfl ?_
    refine w_const i8_layKernel_98 ?_
    refine w_icmpge i8_layKernel_99 (fun h99 => ?_) (fun h_ => absurd h_ (by omega))
    exact K F' h1 h2 h3
  | succ m ih =>
    intro k F' hk hkn h1 h2 h3
    refine w_iload i8_layKernel_96 rfl ?_
    refine w_const i8_layKernel_98 ?_
    refine w_icmpge i8_layKernel_99 (fun h_ => absurd h_ (by omega)) (fun h99 => ?_)
    refine w_aload i8_layKernel_102 rfl ?_
    refine w_getr i8_layKernel_103 rfl rfl ?_
    refine w_iload i8_layKernel_106 rfl ?_
    refine w_const i8_layKernel_108 ?_
    refine w_iast i8_layKernel_109 rfl (by omega) ?_
    refine w_ii7 i8_layKernel_110 (by omega) ?_
    refine w_goto i8_layKernel_113 ?_
    refine ih (k + 1) _ (by omega) (by omega) (fun j hj => ?_) (fun j hj => ?_) (fun a ha => ?_)
    · simp only [upF, true_and]
      rw [if_neg (by omega)]; exact h1 j hj
    · simp only [upF, true_and]
      by_cases e : j = k
      · rw [if_pos e]
      · rw [if_neg e]; exact h2 j (by omega)
    · funext j
      simp only [upF, ha, false_and, if_false]
      rw [h3 a ha]
/-- what the kernel's making may change -/
def Lfr (I I' : IE) (F F' : FE) : Prop := (∀ a k, (a ≠ 0 ∨ k ≠ 8) → I' a k = I a k) ∧ ∀ a, a ≠ 5 → a ≠ 6 → F' a = F a
theorem lr_lk45 {d n0 : Nat} {Q : PQ} {I : IE} {F : FE} {M : Int → Int} {r b n w T : Int} (hd : 3 ≤ d) (hM : NM M F) (hn1 : F 1 1 = n) (hn : 2 ≤ n ∧ n ≤ 4) (hw : w = 2 * b + 1) (hb : 1 ≤ b ∧ b ≤ 18) (hP : PVq M n r b) (hT : T = w ^ (n - 1).toNat) (hT6 : T ≤ 60000)
    (K : ∀ (c : Nat) x y I' F', (c : Int) = T → Lfr I I' F F' → KLI M n b c (I' 0 8) (kr F') → WS m8_layKernel d 0 0 n0 Q 0 0 158 [lr 0, li b, li n, li w, li T, li c, x, y] [] shM I' F') :
    ∀ (m c : Nat) (x y : Option AV) (I' : IE) (F' : FE), (c + m : Int) = T → Lfr I I' F F' → KLI M n b c (I' 0 8) (kr F') → WS m8_layKernel d 0 0 n0 Q 0 0 45 [lr 0, li b, li n, li w, li T, li c, x, y] [] shM I' F' := by
  intro m
  induction m with
  | zero =>
    intro c x y I' F' hc hf hK
    have ec : (c : Int) = T := by omega
    refine w_iload i8_layKernel_45 rfl ?_
    refine w_iload i8_layKernel_47 rfl ?_
    refine w_icmpge i8_layKernel_49 (fun h49 => ?_) (fun h_ => absurd h_ (by omega))
    exact K c x y I' F' ec hf hK
  | succ m ih =>
    intro c x y I' F' hc hf hK
    obtain ⟨l, hl⟩ : ∃ l : Nat, (l : Int) + 1 = n := ⟨(n - 1).toNat, by omega⟩
    have el : n - 1 = (l : Int) := by omega
    have cap := hK.cap hn hP (by rw [← hw, ← hT]; omega)
    have k0 := hK.1
    have wpos : 0 < w := by omega
    refine w_iload i8_layKernel_45 rfl ?_
    refine w_iload i8_layKernel_47 rfl ?_
    refine w_icmpge i8_layKernel_49 (fun h_ => absurd h_ (by omega)) (fun h49 => ?_)
    refine w_iload i8_layKernel_52 rfl ?_
    refine w_is6 i8_layKernel_54 ?_
    refine w_iload i8_layKernel_56 rfl ?_
    refine w_const i8_layKernel_57 ?_
    refine w_isub i8_layKernel_58 (by omega) ?_
    refine w_is7 i8_layKernel_59 ?_
    refine Eq.mp (congrArg (fun z => WS m8_layKernel d 0 0 n0 Q 0 0 61 [lr 0, li b, li n, li w, li T, li c, li c, li z] [] shM I' F') (show n - 2 - ((0 : Nat) : Int) = n - 2 by omega)) ?_
    refine lr_lk61 (F := F') (c := c) hn hw hb (by omega) (fun x1 y1 F1 p1 p2 => ?_) (n - 1).toNat 0 F' (by omega) (fun i hi => absurd hi (Nat.not_lt_zero _)) (fun _ _ => rfl)
    refine w_iload i8_layKernel_91 rfl ?_
    refine w_const i8_layKernel_92 ?_
    refine w_isub i8_layKernel_93 (by omega) ?_
    refine w_is7 i8_layKernel_94 ?_
    rw [el]
    refine lr_lk96 (F := F1) hn (fun F2 q1 q2 q3 => ?_) (4 - l) l F1 (by omega) (by omega) (fun _ _ => rfl) (fun j hj => absurd hj (by omega)) (fun _ _ => rfl)
    have hM2 : NM M F2 := ⟨fun j hj => by rw [q3 1 (by decide), p2 1 (by decide), hf.2 1 (by decide) (by decide)]; exact hM.1 j hj, hM.2⟩
    have hn2 : F2 1 1 = n := by rw [q3 1 (by decide), p2 1 (by decide), hf.2 1 (by decide) (by decide)]; exact hn1
    have dig : ∀ i : Nat, (i : Int) + 1 < n → F2 6 (n - 2 - i) = b - rst w c i % w := fun i hi => by rw [q1 _ (by omega)]; exact p1 i hi
    have dgb : ∀ j, 0 ≤ j ∧ j < (l : Int) → -b ≤ F2 6 j ∧ F2 6 j ≤ b := fun j hj => by
      have := dig (n - 2 - j).toNat (by omega)
      rw [show n - 2 - ((n - 2 - j).toNat : Int) = j by omega] at this
      have a1 := Int.emod_nonneg (rst w c (n - 2 - j).toNat) (show w ≠ 0 by omega)
      have a2 := Int.emod_lt_of_pos (rst w c (n - 2 - j).toNat) wpos
      omega
    have dgz : ∀ v, DgR n b (ups (F2 6) l v) c := fun v i hi => by
      unfold ups
      rw [if_neg (by omega), ← hw]
      exact dig i hi
    have bsl : ∀ F3 : FE, (∀ a, a ≠ 5 → a ≠ 6 → F3 a = F2 a) → ∀ a, a ≠ 5 → a ≠ 6 → F3 a = F a := fun F3 h a h1 h2 => by rw [h a h1 h2, q3 a h2, p2 a h2, hf.2 a h1 h2]
    have f5 : F2 5 = F' 5 := by rw [q3 5 (by decide), p2 5 (by decide)]
    have ek : ((c + 1 : Nat) : Int) = (c : Int) + 1 := by omega
    have el2 : ∀ v, upF F2 6 (l : Int) v 6 = ups (F2 6) l v := fun v => by funext j; simp only [upF, ups, true_and]
    have val : ∀ v, upF F2 6 (l : Int) v 6 l = v := fun v => by simp [upF]
    have u6 : ∀ v a, a ≠ 6 → upF F2 6 (l : Int) v a = F2 a := fun v a ha => by funext j; simp only [upF, ha, false_and, if_false]
    -- nothing of this code
    have agree : ∀ z, DgR n b z c → Cnd M n b z → ∀ j, 0 ≤ j ∧ j < n → z j = ups (F2 6) l (z l) j := fun z hz hC j hj => by
      unfold ups
      by_cases e : j = (l : Int)
      · rw [if_pos e, e]
      · rw [if_neg e]
        have := hz.ag (dgz 0) j (by omega)
        rw [this]
        unfold ups; rw [if_neg e]
    have nxt : ∀ (x y : Option AV) (v : Int), KLI M n b (c + 1) (I' 0 8) (kr F') → WS m8_layKernel d 0 0 n0 Q 0 0 45 [lr 0, li b, li n, li w, li T, li ((c : Int) + 1), x, y] [] shM I' (upF F2 6 (l : Int) v) := fun x y v hk => by
      rw [← ek]
      refine ih (c + 1) x y I' _ (by omega) ⟨hf.1, bsl _ (fun a _ h => u6 v a h)⟩ ?_
      have e5 : kr (upF F2 6 (l : Int) v) = kr F' := by funext i j; unfold kr; rw [u6 v 5 (by decide), f5]
      rw [e5]
      exact hk
    refine w_aload i8_layKernel_116 rfl ?_
    refine w_getr i8_layKernel_117 rfl rfl ?_
    refine w_iload i8_layKernel_120 rfl ?_
    refine w_const i8_layKernel_121 ?_
    refine w_isub i8_layKernel_122 (by omega) ?_
    rw [el]
    refine w_aload i8_layKernel_123 rfl ?_
    refine w_iload i8_layKernel_124 rfl ?_
    refine w_cVP i8_layKernel_125 f8_lastEntry v8_lastEntry (r_lastEntry (M := M) (l := l) (by omega) hM2 hn2 hl (by omega) hb (fun j hj => by have := dgb j hj; omega)) rfl rfl (by decide) rfl rfl (Nat.le_of_ble_eq_true rfl) (by omega) (fun v hv => ?_)
    refine w_iast i8_layKernel_128 rfl (by omega) ?_
    refine w_aload i8_layKernel_129 rfl ?_
    refine w_getr i8_layKernel_130 rfl rfl ?_
    refine w_iload i8_layKernel_133 rfl ?_
    refine w_const i8_layKernel_134 ?_
    refine w_isub i8_layKernel_135 (by omega) ?_
    rw [el]
    refine w_iald i8_layKernel_136 rfl (by omega) ?_
    rw [val]
    refine w_iload i8_layKernel_137 rfl ?_
    refine w_icmpgt i8_layKernel_138 (fun h138 => ?_) (fun h138 => ?_)
    · refine w_ii5 i8_layKernel_152 (by omega) ?_
      refine w_goto i8_layKernel_155 ?_
      first
      | (obtain ⟨eI, r1, r2, r3⟩ := hr
         have ld : lead (ups (F2 6) l v) n := by
           rcases hq with ⟨-, g⟩ | ⟨g, -⟩
           · exact g
           · omega
         have i8 : I3 0 8 = I' 0 8 + 1 := by rw [eI]; simp [upI]
         rw [← ek]
         refine ih (c + 1) _ _ I3 F3 (by omega) ⟨fun a k h => by rw [eI]; simp only [upI]; rw [if_neg (by omega)]; exact hf.1 a k h, bsl _ (fun a h1 h2 => by rw [r3 a h1, u6 v a h2])⟩ ?_
         rw [i8]
         refine KLI.put (y := ups (F2 6) l v) hn hK (dgz v) ⟨hv1.2.1, fun j hj => ?_, ld, fun j hj => ?_⟩ (fun g => ?_) (fun i hi j hj => ?_) (fun j hj => ?_)
         · unfold ups
           by_cases e : j = (l : Int)
           · rw [if_pos e]; exact hv1.1
           · rw [if_neg e]; exact dgb j (by omega)
         · unfold ups
           rw [if_neg (by omega)]
           exact q2 j (by omega)
         · rw [el]; unfold ups; rw [if_pos rfl]
           exact hv1.2.2 (by rw [← el]; exact g.1) (by rw [← el]; exact g.2)
         · unfold kr
           rw [r2 _ (by omega), u6 v 5 (by decide), f5]
         · unfold kr
           rw [r1 j hj, el2])
      | (have hq' := hq
         refine nxt _ _ v (hK.skip (fun z hz hC hlz => ?_))
         have nl : ¬ lead (ups (F2 6) l v) n := by
           rcases hq with ⟨g, -⟩ | ⟨-, g⟩
           · omega
           · exact g
         refine nl (lead_ext hC.2.2.1 (fun j hj => ?_))
         have ag := agree z hz hC
         have lu := last_uniq (M := M) (z := z) (y := ups (F2 6) l v) hn.1 hC.1 hv1.2.1 (fun j hj => by rw [ag j (by omega)]; unfold ups; rw [if_neg (by omega), if_neg (by omega)]) (fun g => ⟨hlz g, by rw [el]; unfold ups; rw [if_pos rfl]; exact hv1.2.2 (by rw [← el]; exact g.1) (by rw [← el]; exact g.2)⟩)
         rw [el] at lu
         rw [ag j hj, lu]
         unfold ups
         by_cases e : j = (l : Int)
         · rw [if_pos e, if_pos e, if_pos rfl]
         · rw [if_neg e, if_neg e])
      | (refine nxt _ _ v (hK.skip (fun z hz hC hlz => ?_))
         rcases hv with ⟨g, -⟩ | ⟨-, g⟩
         · omega
         · exact g (z l) (by have := hC.2.1 l (by omega); omega) (hC.1.ext (agree z hz hC)))
    · refine w_aload i8_layKernel_141 rfl ?_
      refine w_cVP i8_layKernel_142 f8_isFirstPositive v8_isFirstPositive (r_isFirstPositive (n := n) (by rw [u6 v 1 (by decide)]; exact hn2) (by omega)) rfl rfl (by decide) rfl rfl (Nat.le_of_ble_eq_true rfl) (by omega) (fun q hq => ?_)
      rw [el2] at hq
      have hv1 : (-b ≤ v ∧ v ≤ b) ∧ KerF M n (ups (F2 6) l v) ∧ (M l = 0 → M (4 + l) = 0 → v = 0) := by
        rcases hv with g | ⟨g, -⟩
        · exact g
        · omega
      refine w_ifeq i8_layKernel_145 (fun h145 => ?_) (fun h145 => ?_)
      · refine w_ii5 i8_layKernel_152 (by omega) ?_
        refine w_goto i8_layKernel_155 ?_
        first
        | (obtain ⟨eI, r1, r2, r3⟩ := hr
           have ld : lead (ups (F2 6) l v) n := by
             rcases hq with ⟨-, g⟩ | ⟨g, -⟩
             · exact g
             · omega
           have i8 : I3 0 8 = I' 0 8 + 1 := by rw [eI]; simp [upI]
           rw [← ek]
           refine ih (c + 1) _ _ I3 F3 (by omega) ⟨fun a k h => by rw [eI]; simp only [upI]; rw [if_neg (by omega)]; exact hf.1 a k h, bsl _ (fun a h1 h2 => by rw [r3 a h1, u6 v a h2])⟩ ?_
           rw [i8]
           refine KLI.put (y := ups (F2 6) l v) hn hK (dgz v) ⟨hv1.2.1, fun j hj => ?_, ld, fun j hj => ?_⟩ (fun g => ?_) (fun i hi j hj => ?_) (fun j hj => ?_)
           · unfold ups
             by_cases e : j = (l : Int)
             · rw [if_pos e]; exact hv1.1
             · rw [if_neg e]; exact dgb j (by omega)
           · unfold ups
             rw [if_neg (by omega)]
             exact q2 j (by omega)
           · rw [el]; unfold ups; rw [if_pos rfl]
             exact hv1.2.2 (by rw [← el]; exact g.1) (by rw [← el]; exact g.2)
           · unfold kr
             rw [r2 _ (by omega), u6 v 5 (by decide), f5]
           · unfold kr
             rw [r1 j hj, el2])
        | (have hq' := hq
           refine nxt _ _ v (hK.skip (fun z hz hC hlz => ?_))
           have nl : ¬ lead (ups (F2 6) l v) n := by
             rcases hq with ⟨g, -⟩ | ⟨-, g⟩
             · omega
             · exact g
           refine nl (lead_ext hC.2.2.1 (fun j hj => ?_))
           have ag := agree z hz hC
           have lu := last_uniq (M := M) (z := z) (y := ups (F2 6) l v) hn.1 hC.1 hv1.2.1 (fun j hj => by rw [ag j (by omega)]; unfold ups; rw [if_neg (by omega), if_neg (by omega)]) (fun g => ⟨hlz g, by rw [el]; unfold ups; rw [if_pos rfl]; exact hv1.2.2 (by rw [← el]; exact g.1) (by rw [← el]; exact g.2)⟩)
           rw [el] at lu
           rw [ag j hj, lu]
           unfold ups
           by_cases e : j = (l : Int)
           · rw [if_pos e, if_pos e, if_pos rfl]
           · rw [if_neg e, if_neg e])
        | (refine nxt _ _ v (hK.skip (fun z hz hC hlz => ?_))
           rcases hv with ⟨g, -⟩ | ⟨-, g⟩
           · omega
           · exact g (z l) (by have := hC.2.1 l (by omega); omega) (hC.1.ext (agree z hz hC)))
      · refine w_aload i8_layKernel_148 rfl ?_
        refine w_cVU i8_layKernel_149 f8_addKernel v8_addKernel (r_addKernel (by omega)) rfl rfl (by decide) rfl rfl (Nat.le_of_ble_eq_true rfl) (by omega) (fun I3 F3 hr => ?_)
        refine w_ii5 i8_layKernel_152 (by omega) ?_
        refine w_goto i8_layKernel_155 ?_
        first
        | (obtain ⟨eI, r1, r2, r3⟩ := hr
           have ld : lead (ups (F2 6) l v) n := by
             rcases hq with ⟨-, g⟩ | ⟨g, -⟩
             · exact g
             · omega
           have i8 : I3 0 8 = I' 0 8 + 1 := by rw [eI]; simp [upI]
           rw [← ek]
           refine ih (c + 1) _ _ I3 F3 (by omega) ⟨fun a k h => by rw [eI]; simp only [upI]; rw [if_neg (by omega)]; exact hf.1 a k h, bsl _ (fun a h1 h2 => by rw [r3 a h1, u6 v a h2])⟩ ?_
           rw [i8]
           refine KLI.put (y := ups (F2 6) l v) hn hK (dgz v) ⟨hv1.2.1, fun j hj => ?_, ld, fun j hj => ?_⟩ (fun g => ?_) (fun i hi j hj => ?_) (fun j hj => ?_)
           · unfold ups
             by_cases e : j = (l : Int)
             · rw [if_pos e]; exact hv1.1
             · rw [if_neg e]; exact dgb j (by omega)
           · unfold ups
             rw [if_neg (by omega)]
             exact q2 j (by omega)
           · rw [el]; unfold ups; rw [if_pos rfl]
             exact hv1.2.2 (by rw [← el]; exact g.1) (by rw [← el]; exact g.2)
           · unfold kr
             rw [r2 _ (by omega), u6 v 5 (by decide), f5]
           · unfold kr
             rw [r1 j hj, el2])
        | (have hq' := hq
           refine nxt _ _ v (hK.skip (fun z hz hC hlz => ?_))
           have nl : ¬ lead (ups (F2 6) l v) n := by
             rcases hq with ⟨g, -⟩ | ⟨-, g⟩
             · omega
             · exact g
           refine nl (lead_ext hC.2.2.1 (fun j hj => ?_))
           have ag := agree z hz hC
           have lu := last_uniq (M := M) (z := z) (y := ups (F2 6) l v) hn.1 hC.1 hv1.2.1 (fun j hj => by rw [ag j (by omega)]; unfold ups; rw [if_neg (by omega), if_neg (by omega)]) (fun g => ⟨hlz g, by rw [el]; unfold ups; rw [if_pos rfl]; exact hv1.2.2 (by rw [← el]; exact g.1) (by rw [← el]; exact g.2)⟩)
           rw [el] at lu
           rw [ag j hj, lu]
           unfold ups
           by_cases e : j = (l : Int)
           · rw [if_pos e, if_pos e, if_pos rfl]
           · rw [if_neg e, if_neg e])
        | (refine nxt _ _ v (hK.skip (fun z hz hC hlz => ?_))
           rcases hv with ⟨g, -⟩ | ⟨-, g⟩
           · omega
           · exact g (z l) (by have := hC.2.1 l (by omega); omega) (hC.1.ext (agree z hz hC)))
