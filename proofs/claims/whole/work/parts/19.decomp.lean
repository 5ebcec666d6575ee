-- the decomposition: place 47: 0 length, 1 sequence (48), 2 rest (49)
/-- the vectors in the order in which they are tried -/
def cvec (E : Int → Int → Int) (c : Int) : Int → Int := if c % 2 = 0 then E (c / 2) else ng (E (c / 2))
def tval (c : Int) : Int := if c % 2 = 0 then c / 2 + 1 else -(c / 2 + 1)
def isF (n : Int) (E : Int → Int → Int) (r : Int → Int) (c : Int) : Prop := cf n (cvec E c) r ∧ ∀ c', 0 ≤ c' ∧ c' < c → ¬ cf n (cvec E c') r
/-- len elements have been taken from w, the first codes do not fit the rest -/
def DSt (n : Int) (E : Int → Int → Int) (k : Int) (w : Int → Int) (c : Int) (len : Nat) (rest seq : Int → Int) : Prop :=
  ∃ (R : Nat → Int → Int) (C : Nat → Int), (∀ j, 0 ≤ j ∧ j < n → R 0 j = w j) ∧ (∀ j, 0 ≤ j ∧ j < n → R len j = rest j) ∧ (∀ i : Nat, i < len → (0 ≤ C i ∧ C i < 2 * k) ∧ isF n E (R i) (C i) ∧ seq i = tval (C i) ∧ ∀ j, 0 ≤ j ∧ j < n → R (i + 1) j = R i j - cvec E (C i) j) ∧ ∀ c', 0 ≤ c' ∧ c' < c → ¬ cf n (cvec E c') rest
theorem c1_sub {u v : Int} (h : c1 u v) : c1 (v - u) v := by unfold c1 at *; omega
theorem c1_tr {u v w : Int} (h : c1 u v) (g : c1 v w) : c1 u w := by unfold c1 at *; omega
theorem c1_ab {u v : Int} (h : c1 u v) : ab (v - u) = ab v - ab u := by unfold c1 at h; unfold ab; (repeat' split) <;> omega
theorem asum_ext {f g : Int → Int} : ∀ k : Nat, (∀ j : Int, 0 ≤ j ∧ j < k → f j = g j) → asum f k = asum g k
  | 0, _ => rfl
  | k + 1, h => by simp only [asum]; rw [asum_ext k (fun j hj => h j (by omega)), h k (by omega)]
theorem asum_0 {f : Int → Int} : ∀ k : Nat, 0 ≤ asum f k
  | 0 => Int.le_refl _
  | k + 1 => by have := asum_0 (f := f) k; simp only [asum]; unfold ab; split <;> omega
theorem asum_sub {u v : Int → Int} : ∀ k : Nat, (∀ j : Int, 0 ≤ j ∧ j < k → c1 (u j) (v j)) → asum (fun j => v j - u j) k = asum v k - asum u k
  | 0, _ => by simp [asum]
  | k + 1, h => by
    simp only [asum]
    rw [asum_sub k (fun j hj => h j (by omega)), c1_ab (h k (by omega))]
    omega
theorem asum_pos {f : Int → Int} {j : Int} : ∀ k : Nat, 0 ≤ j ∧ j < k → f j ≠ 0 → 1 ≤ asum f k
  | 0, h, _ => absurd h (by omega)
  | k + 1, h, hf => by
    simp only [asum]
    by_cases e : j = k
    · subst e
      have := asum_0 (f := f) k
      unfold ab; split <;> omega
    · have := asum_pos k (by omega) hf
      unfold ab; split <;> omega
theorem ab_neg (x : Int) : ab (-x) = ab x := by unfold ab; (repeat' split) <;> omega
theorem asum_ng {f : Int → Int} : ∀ k : Nat, asum (ng f) k = asum f k
  | 0 => rfl
  | k + 1 => by simp only [asum]; rw [asum_ng k]; simp only [ng, ab_neg]
theorem DSt.no {n : Int} {E : Int → Int → Int} {k : Int} {w : Int → Int} {c : Int} {len : Nat} {rest seq : Int → Int} (h : DSt n E k w c len rest seq) (hn : ¬ cf n (cvec E c) rest) : DSt n E k w (c + 1) len rest seq := by
  obtain ⟨R, C, h1, h2, h3, h4⟩ := h
  refine ⟨R, C, h1, h2, h3, fun c' hc' => ?_⟩
  by_cases e : c' = c
  · subst e; exact hn
  · exact h4 c' (by omega)
theorem DSt.yes {n : Int} {E : Int → Int → Int} {k : Int} {w : Int → Int} {c : Int} {len : Nat} {rest seq rest' seq' : Int → Int} (h : DSt n E k w c len rest seq) (hc : 0 ≤ c ∧ c < 2 * k) (hy : cf n (cvec E c) rest) (hr : ∀ j, 0 ≤ j ∧ j < n → rest' j = rest j - cvec E c j) (hs : ∀ i : Int, 0 ≤ i ∧ i < len → seq' i = seq i) (hs2 : seq' len = tval c) : DSt n E k w c (len + 1) rest' seq' := by
  obtain ⟨R, C, h1, h2, h3, h4⟩ := h
  refine ⟨fun i => if i ≤ len then R i else rest', fun i => if i < len then C i else c, fun j hj => by simp only [Nat.zero_le, if_true]; exact h1 j hj, fun j hj => by simp only [show ¬ (len + 1 ≤ len) by omega, if_false], fun i hi => ?_, fun c' hc' g => h4 c' hc' ?_⟩
  · by_cases hl : i < len
    · simp only [hl, if_true, show i ≤ len by omega, show i + 1 ≤ len by omega]
      obtain ⟨a1, a2, a3, a4⟩ := h3 i hl
      exact ⟨a1, a2, by rw [hs i (by omega)]; exact a3, a4⟩
    · obtain rfl : i = len := by omega
      simp only [hl, if_false, Nat.le_refl, if_true, show ¬ (i + 1 ≤ i) by omega]
      refine ⟨hc, ⟨cf_ext (fun _ _ => rfl) (fun j hj => (h2 j hj).symm) hy, fun c' hc' g => h4 c' hc' (cf_ext (fun _ _ => rfl) h2 g)⟩, hs2, fun j hj => by rw [h2 j hj]; exact hr j hj⟩
  · intro j hj
    have a := g j hj
    rw [hr j hj] at a
    exact c1_tr a (c1_sub (hy j hj))
theorem l0_sub {d n0 : Nat} {Q : PQ} {I : IE} {F : FE} {e s : Int} (hd : 1 ≤ d) (he : 0 ≤ e ∧ e < 16) (hs : s = 1 ∨ s = -1) (hn : 0 ≤ I 42 3 ∧ I 42 3 ≤ 4) (hE : ∀ j, -100 ≤ F 43 j ∧ F 43 j ≤ 100) (hv : ∀ j, 0 ≤ j ∧ j < 4 → -30 ≤ F 49 j ∧ F 49 j ≤ 30)
    (K : ∀ F', (∀ j, 0 ≤ j ∧ j < I 42 3 → F' 49 j = F 49 j - s * en F e j) → (∀ j, I 42 3 ≤ j → F' 49 j = F 49 j) → (∀ a, a ≠ 49 → F' a = F a) → WS m0_takeWhileConformal d 0 0 n0 Q 0 0 59 [lr 47, lr 42, li e, li s, li (I 42 3)] [] shX I F') :
    ∀ (m k : Nat) (F' : FE), (k + m : Int) = I 42 3 → (∀ j, 0 ≤ j ∧ j < (k : Int) → F' 49 j = F 49 j - s * en F e j) → (∀ j, (k : Int) ≤ j → F' 49 j = F 49 j) → (∀ a, a ≠ 49 → F' a = F a) → WS m0_takeWhileConformal d 0 0 n0 Q 0 0 25 [lr 47, lr 42, li e, li s, li k] [] shX I F' := by
  intro m
  induction m with
  | zero =>
    intro k F' hk h1 h2 h3
    have ek : (k : Int) = I 42 3 := by omega
    rw [ek] at h1 h2 ⊢
    refine w_iload i0_takeWhileConformal_25 rfl ?_
    refine w_aload i0_takeWhileConformal_27 rfl ?_
    refine w_getN rfl i0_takeWhileConformal_28 rfl rfl rfl ?_
    refine w_icmpge i0_takeWhileConformal_31 (fun h31 => ?_) (fun h_ => absurd h_ (by omega))
    exact K F' h1 h2 h3
  | succ m ih =>
    intro k F' hk h1 h2 h3
    have een : en F' e k = en F e k := by unfold en; rw [h3 43 (by decide)]
    have ek := h2 k (by omega)
    have hb1 := hv k (by omega)
    have hb : -100 ≤ s * en F e k ∧ s * en F e k ≤ 100 := by
      have := hE (e * 4 + k)
      unfold en
      rcases hs with rfl | rfl <;> omega
    refine w_iload i0_takeWhileConformal_25 rfl ?_
    refine w_aload i0_takeWhileConformal_27 rfl ?_
    refine w_getN rfl i0_takeWhileConformal_28 rfl rfl rfl ?_
    refine w_icmpge i0_takeWhileConformal_31 (fun h_ => absurd h_ (by omega)) (fun h31 => ?_)
    refine w_aload i0_takeWhileConformal_34 rfl ?_
    refine w_getr i0_takeWhileConformal_35 rfl rfl ?_
    refine w_iload i0_takeWhileConformal_38 rfl ?_
    refine w_dup2 i0_takeWhileConformal_40 ?_
    refine w_iald i0_takeWhileConformal_41 rfl (by omega) ?_
    refine w_iload i0_takeWhileConformal_42 rfl ?_
    refine w_aload i0_takeWhileConformal_43 rfl ?_
    refine w_iload i0_takeWhileConformal_44 rfl ?_
    refine w_iload i0_takeWhileConformal_45 rfl ?_
    refine w_cVR i0_takeWhileConformal_47 f2_at v2_at (s2_at he (by omega)) rfl rfl (by decide) rfl rfl (Nat.le_of_ble_eq_true rfl) (by omega) ?_
    rw [een]
    refine w_imul i0_takeWhileConformal_50 (by omega) ?_
    refine w_isub i0_takeWhileConformal_51 (by omega) ?_
    refine w_iast i0_takeWhileConformal_52 rfl (by omega) ?_
    refine w_ii4 i0_takeWhileConformal_53 (by omega) ?_
    refine w_goto i0_takeWhileConformal_56 ?_
    refine ih (k + 1) _ (by omega) (fun j hj => ?_) (fun j hj => ?_) (fun a ha => ?_)
    · simp only [upF, true_and]
      by_cases e' : j = k
      · subst e'; rw [if_pos rfl, ek]
      · rw [if_neg e']; exact h1 j (by omega)
    · simp only [upF, true_and]
      rw [if_neg (by omega)]; exact h2 j (by omega)
    · funext i
      simp only [upF, ha, false_and, if_false]
      rw [h3 a ha]
/-- what the taking may change -/
def Dfr (I I' : IE) (F F' : FE) : Prop := (∀ a k, (a ≠ 47 ∨ k ≠ 0) → I' a k = I a k) ∧ ∀ a, a ≠ 48 → a ≠ 49 → F' a = F a
theorem Dfr.tr {I I1 I2 : IE} {F F1 F2 : FE} (h : Dfr I I1 F F1) (g : Dfr I1 I2 F1 F2) : Dfr I I2 F F2 := ⟨fun a k ha => (g.1 a k ha).trans (h.1 a k ha), fun a h1 h2 => (g.2 a h1 h2).trans (h.2 a h1 h2)⟩
theorem s0_twc {d : Nat} {I : IE} {F : FE} {e s c k : Int} {w : Int → Int} {len : Nat} (hd : 2 ≤ d) (he : 0 ≤ e ∧ e < k) (hk : k ≤ 15) (hs : s = 1 ∧ c = 2 * e ∨ s = -1 ∧ c = 2 * e + 1) (hn : 0 ≤ I 42 3 ∧ I 42 3 ≤ 4) (hE : ∀ j, -100 ≤ F 43 j ∧ F 43 j ≤ 100) (hnz : ∃ j, 0 ≤ j ∧ j < I 42 3 ∧ en F e j ≠ 0)
    (hl : I 47 0 = (len : Int)) (hv : ∀ j, 0 ≤ j ∧ j < 4 → -30 ≤ F 49 j ∧ F 49 j ≤ 30) (hD : DSt (I 42 3) (en F) k w c len (F 49) (F 48)) (hb : (len : Int) + asum (F 49) (I 42 3).toNat ≤ 120) :
    MU m0_takeWhileConformal d shX [rv 47, rv 42, iv e, iv s] I F (fun I' F' => Dfr I I' F F' ∧ ∃ len' : Nat, I' 47 0 = (len' : Int) ∧ (∀ j, 0 ≤ j ∧ j < 4 → -30 ≤ F' 49 j ∧ F' 49 j ≤ 30) ∧ DSt (I 42 3) (en F) k w (c + 1) len' (F' 49) (F' 48) ∧ (len' : Int) + asum (F' 49) (I 42 3).toNat ≤ 120) := by
  have hs' : s = 1 ∨ s = -1 := by omega
  have hcv : ∀ j, cvec (en F) c j = s * en F e j := fun j => by
    unfold cvec ng
    rcases hs with ⟨rfl, rfl⟩ | ⟨rfl, rfl⟩
    · rw [if_pos (by omega), show 2 * e / 2 = e by omega, Int.one_mul]
    · rw [if_neg (by omega), show (2 * e + 1) / 2 = e by omega, Int.neg_mul, Int.one_mul]
  have htv : s * (e + 1) = tval c := by
    unfold tval
    rcases hs with ⟨rfl, rfl⟩ | ⟨rfl, rfl⟩
    · rw [if_pos (by omega)]; omega
    · rw [if_neg (by omega)]; omega
  have hasum : 1 ≤ asum (cvec (en F) c) (I 42 3).toNat := by
    obtain ⟨j, j1, j2, j3⟩ := hnz
    refine asum_pos (j := j) _ (by omega) ?_
    rw [hcv]
    rcases hs' with rfl | rfl <;> omega
  have key : ∀ (Q : PQ), (∀ I' F', (Dfr I I' F F' ∧ ∃ len' : Nat, I' 47 0 = (len' : Int) ∧ (∀ j, 0 ≤ j ∧ j < 4 → -30 ≤ F' 49 j ∧ F' 49 j ≤ 30) ∧ DSt (I 42 3) (en F) k w (c + 1) len' (F' 49) (F' 48) ∧ (len' : Int) + asum (F' 49) (I 42 3).toNat ≤ 120) → Q none shX I' F') →
      ∀ (m : Nat) (len : Nat) (I1 : IE) (F1 : FE) (x : Option AV), (len : Int) + m = 121 → Dfr I I1 F F1 → I1 47 0 = (len : Int) → (∀ j, 0 ≤ j ∧ j < 4 → -30 ≤ F1 49 j ∧ F1 49 j ≤ 30) → DSt (I 42 3) (en F) k w c len (F1 49) (F1 48) → (len : Int) + asum (F1 49) (I 42 3).toNat ≤ 120 →
      WS m0_takeWhileConformal d 0 0 shX.length Q 0 0 0 [lr 47, lr 42, li e, li s, x] [] shX I1 F1 := by
    intro Q hQ m
    induction m with
    | zero =>
      intro len I1 F1 x hm hf hl hv hD hb
      have := asum_0 (f := F1 49) (I 42 3).toNat
      omega
    | succ m ih =>
      intro len I1 F1 x hm hf hl hv hD hb
      have e3 : I1 42 3 = I 42 3 := hf.1 42 3 (by omega)
      have e43 : F1 43 = F 43 := hf.2 43 (by decide) (by decide)
      have een : en F1 = en F := by funext a b; unfold en; rw [e43]
      have cont : cf (I 42 3) (cvec (en F) c) (F1 49) → ∀ F2, (∀ j, 0 ≤ j ∧ j < I 42 3 → F2 49 j = F1 49 j - s * en F e j) → (∀ j, I 42 3 ≤ j → F2 49 j = F1 49 j) → (∀ a, a ≠ 49 → F2 a = F1 a) → WS m0_takeWhileConformal d 0 0 shX.length Q 0 0 59 [lr 47, lr 42, li e, li s, li (I1 42 3)] [] shX I1 F2 := by
        intro hy F2 g1 g2 g3
        have hr : ∀ j, 0 ≤ j ∧ j < I 42 3 → F2 49 j = F1 49 j - cvec (en F) c j := fun j hj => by rw [hcv]; exact g1 j hj
        have ha := asum_sub (u := cvec (en F) c) (v := F1 49) (I 42 3).toNat (fun j hj => hy j (by omega))
        have ha2 : asum (F2 49) (I 42 3).toNat = asum (fun j => F1 49 j - cvec (en F) c j) (I 42 3).toNat := asum_ext _ (fun j hj => hr j (by omega))
        have hlb := asum_0 (f := fun j => F1 49 j - cvec (en F) c j) (I 42 3).toNat
        have hv2 : ∀ j, 0 ≤ j ∧ j < 4 → -30 ≤ F2 49 j ∧ F2 49 j ≤ 30 := fun j hj => by
          by_cases hj3 : j < I 42 3
          · have h1 := hv j hj
            have h2 := c1_sub (hy j (by omega))
            rw [hr j (by omega)]
            unfold c1 at h2
            omega
          · rw [g2 j (by omega)]; exact hv j hj
        have htb : -16 ≤ tval c ∧ tval c ≤ 16 := by unfold tval; split <;> omega
        refine w_aload i0_takeWhileConformal_59 rfl ?_
        refine w_getr i0_takeWhileConformal_60 rfl rfl ?_
        refine w_aload i0_takeWhileConformal_63 rfl ?_
        refine w_get i0_takeWhileConformal_64 rfl rfl ?_
        refine w_iload i0_takeWhileConformal_67 rfl ?_
        refine w_iload i0_takeWhileConformal_68 rfl ?_
        refine w_const i0_takeWhileConformal_69 ?_
        refine w_iadd i0_takeWhileConformal_70 (by omega) ?_
        refine w_imul i0_takeWhileConformal_71 ((by rw [htv]; constructor <;> omega)) ?_
        rw [htv]
        refine w_iast i0_takeWhileConformal_72 rfl (by omega) ?_
        refine w_aload i0_takeWhileConformal_73 rfl ?_
        refine w_dup i0_takeWhileConformal_74 ?_
        refine w_get i0_takeWhileConformal_75 rfl rfl ?_
        refine w_const i0_takeWhileConformal_78 ?_
        refine w_iadd i0_takeWhileConformal_79 (by omega) ?_
        refine w_put i0_takeWhileConformal_80 rfl rfl (Or.inl rfl) ?_
        refine w_goto i0_takeWhileConformal_83 ?_
        refine ih (len + 1) _ _ _ (by omega) (hf.tr ⟨fun a j ha => by simp only [upI]; rw [if_neg (by omega)], fun a h1 h2 => by funext i; simp only [upF, h1, false_and, if_false]; rw [g3 a h2]⟩) (by simp [upI]; omega) (fun j hj => by simp only [upF]; rw [if_neg (by omega)]; exact hv2 j hj) ?_ ?_
        · refine hD.yes (by omega) hy (fun j hj => by simp only [upF]; rw [if_neg (by omega)]; exact hr j hj) (fun i hi => by simp only [upF, true_and]; rw [if_neg (by omega), g3 48 (by decide)]) (by simp only [upF, true_and]; rw [if_pos (by omega)])
        · have e5 : asum (upF F2 48 (I1 47 0) (tval c) 49) (I 42 3).toNat = asum (F2 49) (I 42 3).toNat := asum_ext _ (fun j _ => by simp only [upF]; rw [if_neg (by omega)])
          rw [e5]
          omega
      refine w_aload i0_takeWhileConformal_0 rfl ?_
      refine w_get i0_takeWhileConformal_1 rfl rfl ?_
      refine w_const i0_takeWhileConformal_4 ?_
      refine w_icmpge i0_takeWhileConformal_6 (fun h6 => ?_) (fun h6 => ?_)
      · have hno : ¬ cf (I 42 3) (cvec (en F) c) (F1 49) := by
          intro g
          first
          | (have h6' : (120 : Int) ≤ I1 47 0 := h6
             have ga := asum_sub (u := cvec (en F) c) (v := F1 49) (I 42 3).toNat (fun j hj => g j (by omega))
             have := asum_0 (f := fun j => F1 49 j - cvec (en F) c j) (I 42 3).toNat
             omega)
          | (rcases hv_ with h | h
             · exact absurd h.1 (by omega)
             · exact h.2 (fun i hi => by rw [← hcv]; exact g i hi))
        refine w_vret i0_takeWhileConformal_86 rfl ⟨Nat.le_refl _, Nat.le_refl _⟩ ?_
        exact hQ _ _ ⟨hf, len, hl, hv, hD.no hno, hb⟩
      · refine w_aload i0_takeWhileConformal_9 rfl ?_
        refine w_iload i0_takeWhileConformal_10 rfl ?_
        refine w_iload i0_takeWhileConformal_11 rfl ?_
        refine w_aload i0_takeWhileConformal_12 rfl ?_
        refine w_getr i0_takeWhileConformal_13 rfl rfl ?_
        refine w_cVP i0_takeWhileConformal_16 f2_conforms v2_conforms (s2_conforms (N := 4) (by omega) (by omega) hs' (by rw [e3]; exact hn) (by rw [e43]; exact hE) rfl (by omega) (fun j hj => by have := hv j hj; omega)) rfl rfl (by decide) rfl rfl (Nat.le_of_ble_eq_true rfl) (by omega) (fun v hv_ => ?_)
        rw [e3, een] at hv_
        refine w_ifeq i0_takeWhileConformal_19 (fun h19 => ?_) (fun h19 => ?_)
        · have hno : ¬ cf (I 42 3) (cvec (en F) c) (F1 49) := by
            intro g
            first
            | (have h6' : (120 : Int) ≤ I1 47 0 := h6
               have ga := asum_sub (u := cvec (en F) c) (v := F1 49) (I 42 3).toNat (fun j hj => g j (by omega))
               have := asum_0 (f := fun j => F1 49 j - cvec (en F) c j) (I 42 3).toNat
               omega)
            | (rcases hv_ with h | h
               · exact absurd h.1 (by omega)
               · exact h.2 (fun i hi => by rw [← hcv]; exact g i hi))
          refine w_vret i0_takeWhileConformal_86 rfl ⟨Nat.le_refl _, Nat.le_refl _⟩ ?_
          exact hQ _ _ ⟨hf, len, hl, hv, hD.no hno, hb⟩
        · refine w_const i0_takeWhileConformal_22 ?_
          refine w_is4 i0_takeWhileConformal_23 ?_
          have hy : cf (I 42 3) (cvec (en F) c) (F1 49) := by
            rcases hv_ with h | h
            · intro i hi; rw [hcv]; exact h.2 i hi
            · exact absurd h.1 (by omega)
          refine l0_sub (F := F1) (by omega) (by omega) hs' (by rw [e3]; exact hn) (by rw [e43]; exact hE) hv (fun F2 g1 g2 g3 => ?_) (I 42 3).toNat 0 F1 (by omega) (fun j hj => absurd hj (by omega)) (fun _ _ => rfl) (fun _ _ => rfl)
          rw [e3] at g1 g2
          rw [een] at g1
          exact cont hy F2 g1 g2 g3
  refine MS_of (ls := [lr 47, lr 42, li e, li s, lu]) f0_takeWhileConformal rfl rfl (Nat.le_of_ble_eq_true rfl) ?_
  exact key _ (fun I' F' h => ⟨rfl, rfl, h⟩) (121 - len) len I F lu (by have := asum_0 (f := F 49) (I 42 3).toNat; omega) ⟨fun _ _ _ => rfl, fun _ _ _ => rfl⟩ hl hv hD hb
theorem s0_find {d : Nat} {I : IE} {F : FE} {p : Nat} (hd : 3 ≤ d) (hk : 0 ≤ I 42 0 ∧ I 42 0 ≤ 15) (hn : 0 ≤ I 42 3 ∧ I 42 3 ≤ 4) (hE : ∀ j, -100 ≤ F 43 j ∧ F 43 j ≤ 100) (hnz : ∀ e, 0 ≤ e ∧ e < I 42 0 → ∃ j, 0 ≤ j ∧ j < I 42 3 ∧ en F e j ≠ 0)
    (hp : shX[p]? = some (.inl 4)) (hv : ∀ j, 0 ≤ j ∧ j < 4 → -30 ≤ F p j ∧ F p j ≤ 30) (hp48 : p ≠ 48) (hp49 : p ≠ 49) :
    MU m0_find d shX [rv 47, rv 42, rv p] I F (fun I' F' => Dfr I I' F F' ∧ ∃ len' : Nat, I' 47 0 = (len' : Int) ∧ len' ≤ 120 ∧ DSt (I 42 3) (en F) (I 42 0) (F p) (2 * I 42 0) len' (F' 49) (F' 48)) := by
  have loop : ∀ (m e len : Nat) (I1 : IE) (F1 : FE), (e + m : Int) = I 42 0 → Dfr I I1 F F1 → I1 47 0 = (len : Int) → (∀ j, 0 ≤ j ∧ j < 4 → -30 ≤ F1 49 j ∧ F1 49 j ≤ 30) → DSt (I 42 3) (en F) (I 42 0) (F p) (2 * e) len (F1 49) (F1 48) → (len : Int) + asum (F1 49) (I 42 3).toNat ≤ 120 →
      WS m0_find d 0 0 shX.length (fun r sh' I' F' => sh' = shX ∧ (fun r I' F' => r = none ∧ (fun I' F' => Dfr I I' F F' ∧ ∃ len' : Nat, I' 47 0 = (len' : Int) ∧ len' ≤ 120 ∧ DSt (I 42 3) (en F) (I 42 0) (F p) (2 * I 42 0) len' (F' 49) (F' 48)) I' F') r I' F') 0 0 18 [lr 47, lr 42, lr p, li e] [] shX I1 F1 := by
    intro m
    induction m with
    | zero =>
      intro e len I1 F1 hm hf hl hv hD hb
      have e0 : I1 42 0 = I 42 0 := hf.1 42 0 (by omega)
      have hlb := asum_0 (f := F1 49) (I 42 3).toNat
      have ee : (e : Int) = I 42 0 := by omega
      rw [ee] at hD
      refine w_iload i0_find_18 rfl ?_
      refine w_aload i0_find_19 rfl ?_
      refine w_get i0_find_20 rfl rfl ?_
      refine w_icmpge i0_find_23 (fun h23 => ?_) (fun h_ => absurd h_ (by omega))
      refine w_vret i0_find_46 rfl ⟨Nat.le_refl _, Nat.le_refl _⟩ ?_
      exact ⟨rfl, rfl, hf, len, hl, by omega, hD⟩
    | succ m ih =>
      intro e len I1 F1 hm hf hl hv hD hb
      have e0 : I1 42 0 = I 42 0 := hf.1 42 0 (by omega)
      have e3 : I1 42 3 = I 42 3 := hf.1 42 3 (by omega)
      have e43 : F1 43 = F 43 := hf.2 43 (by decide) (by decide)
      have een : en F1 = en F := by funext a b; unfold en; rw [e43]
      refine w_iload i0_find_18 rfl ?_
      refine w_aload i0_find_19 rfl ?_
      refine w_get i0_find_20 rfl rfl ?_
      refine w_icmpge i0_find_23 (fun h_ => absurd h_ (by omega)) (fun h23 => ?_)
      refine w_aload i0_find_26 rfl ?_
      refine w_aload i0_find_27 rfl ?_
      refine w_iload i0_find_28 rfl ?_
      refine w_const i0_find_29 ?_
      refine w_cVU i0_find_30 f0_takeWhileConformal v0_takeWhileConformal (s0_twc (e := e) (s := 1) (c := 2 * e) (k := I 42 0) (w := F p) (len := len) (by omega) (by omega) (by omega) (Or.inl ⟨rfl, rfl⟩) (by rw [e3]; exact hn) (by rw [e43]; exact hE) (by rw [e3, een]; exact hnz e (by omega)) hl hv (by rw [e3, een]; exact hD) (by rw [e3]; exact hb)) rfl rfl (by decide) rfl rfl (Nat.le_of_ble_eq_true rfl) (by omega) (fun I2 F2 hq => ?_)
      obtain ⟨hf2, len2, hl2, hv2, hD2, hb2⟩ := hq
      rw [e3, een] at hD2
      rw [e3] at hb2
      have f3 : I2 42 3 = I 42 3 := by rw [hf2.1 42 3 (by omega)]; exact e3
      have f43 : F2 43 = F 43 := by rw [hf2.2 43 (by decide) (by decide)]; exact e43
      have fen : en F2 = en F := by funext a b; unfold en; rw [f43]
      refine w_aload i0_find_33 rfl ?_
      refine w_aload i0_find_34 rfl ?_
      refine w_iload i0_find_35 rfl ?_
      refine w_const i0_find_36 ?_
      refine w_cVU i0_find_37 f0_takeWhileConformal v0_takeWhileConformal (s0_twc (e := e) (s := -1) (c := 2 * e + 1) (k := I 42 0) (w := F p) (len := len2) (by omega) (by omega) (by omega) (Or.inr ⟨rfl, rfl⟩) (by rw [f3]; exact hn) (by rw [f43]; exact hE) (by rw [f3, fen]; exact hnz e (by omega)) hl2 hv2 (by rw [f3, fen]; exact hD2) (by rw [f3]; exact hb2)) rfl rfl (by decide) rfl rfl (Nat.le_of_ble_eq_true rfl) (by omega) (fun I3 F3 hq => ?_)
      obtain ⟨hf3, len3, hl3, hv3, hD3, hb3⟩ := hq
      rw [f3, fen] at hD3
      rw [f3] at hb3
      refine w_ii3 i0_find_40 (by omega) ?_
      refine w_goto i0_find_43 ?_
      exact ih (e + 1) len3 I3 F3 (by omega) ((hf.tr hf2).tr hf3) hl3 hv3 (by rw [show 2 * ((e + 1 : Nat) : Int) = 2 * e + 1 + 1 by omega]; exact hD3) hb3
  have hvp : ∀ j, 0 ≤ j ∧ j < 4 → cpF F p 0 49 0 4 49 j = F p j := fun j hj => by
    simp only [cpF, true_and]
    rw [if_pos (by omega), show 0 + (j - 0) = j by omega]
  refine MS_of (ls := [lr 47, lr 42, lr p, lu]) f0_find rfl rfl (Nat.le_of_ble_eq_true rfl) ?_
  refine w_aload i0_find_0 rfl ?_
  refine w_const i0_find_1 ?_
  refine w_aload i0_find_2 rfl ?_
  refine w_getr i0_find_3 rfl rfl ?_
  refine w_const i0_find_6 ?_
  refine w_const i0_find_7 ?_
  refine w_copy i0_find_8 hp rfl (by omega) (by omega) (by omega) (Nat.le_of_ble_eq_true rfl) ?_
  refine w_aload i0_find_11 rfl ?_
  refine w_const i0_find_12 ?_
  refine w_put i0_find_13 rfl rfl (Or.inl rfl) ?_
  refine w_const i0_find_16 ?_
  refine w_is3 i0_find_17 ?_
  refine loop (I 42 0).toNat 0 0 _ _ (by omega) ⟨fun a k ha => by simp only [upI]; rw [if_neg (by omega)], fun a h1 h2 => by funext i; simp only [cpF, h2, false_and, if_false]⟩ (by simp [upI]) (fun j hj => by rw [hvp j hj]; exact hv j hj) ?_ ?_
  · refine ⟨fun _ => F p, fun _ => 0, fun _ _ => rfl, fun j hj => (hvp j (by omega)).symm, fun i hi => absurd hi (by omega), fun c' hc' => absurd hc' (by omega)⟩
  · rw [asum_ext (g := F p) _ (fun j hj => hvp j (by omega))]
    have : ∀ k : Nat, k ≤ 4 → asum (F p) k ≤ 30 * k := fun k => by
      induction k with
      | zero => intro _; simp [asum]
      | succ k ih =>
        intro hk
        have := ih (by omega)
        have h2 := ab_b (hv k (by omega))
        simp only [asum]
        omega
    have := this (I 42 3).toNat (by omega)
    omega
