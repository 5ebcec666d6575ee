/-- a state in a row of 178 cells -/
def NB (g : Int → Int) (σ : Sg) : Prop := g 0 = gR σ ∧ g 1 = gC σ ∧ (∀ j, 0 ≤ j ∧ j < 8 → g (2 + j) = gM σ j) ∧ (∀ j, 0 ≤ j ∧ j < 4 → g (10 + j) = gZ σ j) ∧ (∀ j, 0 ≤ j ∧ j < 4 → g (14 + j) = gY σ j) ∧ ∀ k : Nat, k < 160 → g (18 + k) = gA σ k
def AZ (σ : Sg) : Prop := ∀ k : Nat, gk (gM σ) (gC σ) ≤ k → gA σ k = 0
def DS (σ : Sg) (F : FE) : Prop := SV σ ∧ AZ σ ∧ NB (F 1) σ
def DB (σ : Sg) (I : IE) (F : FE) : Prop := I 0 5 = gk (gM σ) (gC σ) ∧ (0 ≤ gk (gM σ) (gC σ) ∧ gk (gM σ) (gC σ) ≤ 15) ∧ (∀ e, 0 ≤ e ∧ e < gk (gM σ) (gC σ) → ∀ j, 0 ≤ j ∧ j < 4 → er F e j = gE (gM σ) (gC σ) e j) ∧ Bas (gM σ) (gC σ) (gk (gM σ) (gC σ), grk (gM σ) (gC σ), gE (gM σ) (gC σ))
def DH (H : Nat × (Nat → Sg)) (I : IE) (F : FE) : Prop := I 0 2 = (H.1 : Int) ∧ H.1 ≤ 8 ∧ ∀ i : Nat, i < H.1 → SV (H.2 i) ∧ AZ (H.2 i) ∧ NB (fun j => F 2 (178 * i + j)) (H.2 i)
def DT (T : Nat × (Int → Int)) (I : IE) (F : FE) : Prop := I 0 4 = (T.1 : Int) ∧ T.1 ≤ 40 ∧ ∀ j, 0 ≤ j ∧ j < (T.1 : Int) → F 3 j = T.2 j
def DI (S : Sx) (I : IE) (F : FE) : Prop := DS S.1 F ∧ DB S.1 I F ∧ DH S.2.1 I F ∧ DT S.2.2 I F
theorem NB.ext {g h : Int → Int} {σ : Sg} (e : ∀ j, 0 ≤ j ∧ j < 178 → h j = g j) (n : NB g σ) : NB h σ := by
  obtain ⟨a1, a2, a3, a4, a5, a6⟩ := n
  exact ⟨by rw [e 0 (by decide), a1], by rw [e 1 (by decide), a2], fun j hj => by rw [e _ (by omega), a3 j hj], fun j hj => by rw [e _ (by omega), a4 j hj], fun j hj => by rw [e _ (by omega), a5 j hj], fun k hk => by rw [e _ (by omega), a6 k hk]⟩
theorem DB.fr {σ : Sg} {I I' : IE} {F F' : FE} (h : DB σ I F) (h0 : I' 0 5 = I 0 5) (h1 : F' 4 = F 4) : DB σ I' F' := by
  obtain ⟨a1, a2, a3, a4⟩ := h
  exact ⟨by rw [h0, a1], a2, fun e he j hj => by rw [← a3 e he j hj]; unfold er; rw [h1], a4⟩
theorem DH.fr {H : Nat × (Nat → Sg)} {I I' : IE} {F F' : FE} (h : DH H I F) (h0 : I' 0 2 = I 0 2) (h1 : F' 2 = F 2) : DH H I' F' := by
  obtain ⟨a1, a2, a3⟩ := h
  exact ⟨by rw [h0, a1], a2, by rw [h1]; exact a3⟩
theorem DT.fr {T : Nat × (Int → Int)} {I I' : IE} {F F' : FE} (h : DT T I F) (h0 : I' 0 4 = I 0 4) (h1 : F' 3 = F 3) : DT T I' F' := by
  obtain ⟨a1, a2, a3⟩ := h
  exact ⟨by rw [h0, a1], a2, by rw [h1]; exact a3⟩
theorem DS.nm {σ : Sg} {F : FE} (h : DS σ F) : NM (gM σ) F := ⟨h.2.2.2.2.1, h.1.2.2.1⟩
theorem SV.hz {σ : Sg} (h : SV σ) : ∀ j, gC σ ≤ j ∧ j < 4 → gM σ j = 0 ∧ gM σ (4 + j) = 0 := fun j hj => by
  have w := h.2.2.2.1
  have c := h.2.1
  exact ⟨w j (by omega), w (4 + j) (by omega)⟩
theorem lr_ch {d n0 : Nat} {Q : PQ} {I : IE} {F : FE} {g : Int} (h5 : I 0 5 = g) (hg : 0 ≤ g ∧ g ≤ 15)
    (K : ∀ F', (∀ j, j < 18 → F' 1 j = F 1 j) → (∀ k : Nat, k < 160 → F' 1 (18 + k) = if (k : Int) < g then 1 else 0) → (∀ a, a ≠ 1 → F' a = F a) → WS m8_changed d 0 0 n0 Q 0 0 41 [lr 0, li 160] [] shM I F') :
    ∀ (m k : Nat) (F' : FE), k + m = 160 → (∀ j, j < 18 → F' 1 j = F 1 j) → (∀ i : Nat, i < k → F' 1 (18 + i) = if (i : Int) < g then 1 else 0) → (∀ a, a ≠ 1 → F' a = F a) → WS m8_changed d 0 0 n0 Q 0 0 6 [lr 0, li k] [] shM I F' := by
  intro m
  induction m with
  | zero =>
    intro k F' hk h1 h2 h3
    obtain rfl : k = 160 := by omega
    refine w_iload i8_changed_6 rfl ?_
    refine w_const i8_changed_7 ?_
    refine w_icmpge i8_changed_10 (fun h10 => ?_) (fun h_ => absurd h_ (by omega))
    exact K F' h1 h2 h3
  | succ m ih =>
    intro k F' hk h1 h2 h3
    have step : ∀ v, v = (if (k : Int) < g then (1 : Int) else 0) → ∀ F1, F1 = upF F' 1 (18 + (k : Int)) v → (∀ j, j < 18 → F1 1 j = F 1 j) ∧ (∀ i : Nat, i < k + 1 → F1 1 (18 + i) = if (i : Int) < g then 1 else 0) ∧ ∀ a, a ≠ 1 → F1 a = F a := fun v hv F1 e => by
      subst e
      refine ⟨fun j hj => ?_, fun i hi => ?_, fun a ha => ?_⟩
      · simp only [upF, true_and]
        rw [if_neg (by omega)]; exact h1 j hj
      · simp only [upF, true_and]
        by_cases c : i = k
        · rw [if_pos (by omega), c]; exact hv
        · rw [if_neg (by omega)]; exact h2 i (by omega)
      · funext j
        simp only [upF, ha, false_and, if_false]
        rw [h3 a ha]
    refine w_iload i8_changed_6 rfl ?_
    refine w_const i8_changed_7 ?_
    refine w_icmpge i8_changed_10 (fun h_ => absurd h_ (by omega)) (fun h10 => ?_)
    refine w_aload i8_changed_13 rfl ?_
    refine w_getr i8_changed_14 rfl rfl ?_
    refine w_const i8_changed_17 ?_
    refine w_iload i8_changed_19 rfl ?_
    refine w_iadd i8_changed_20 (by omega) ?_
    refine w_iload i8_changed_21 rfl ?_
    refine w_aload i8_changed_22 rfl ?_
    refine w_get i8_changed_23 rfl rfl ?_
    refine w_icmpge i8_changed_26 (fun h26 => ?_) (fun h26 => ?_)
    · refine w_const i8_changed_33 ?_
      refine w_iast i8_changed_34 rfl (by omega) ?_
      refine w_ii1 i8_changed_35 (by omega) ?_
      refine w_goto i8_changed_38 ?_
      obtain ⟨s1, s2, s3⟩ := step _ (by first | rw [if_pos (by omega)] | rw [if_neg (by omega)]) _ rfl
      exact ih (k + 1) _ (by omega) s1 s2 s3
    · refine w_const i8_changed_29 ?_
      refine w_goto i8_changed_30 ?_
      refine w_iast i8_changed_34 rfl (by omega) ?_
      refine w_ii1 i8_changed_35 (by omega) ?_
      refine w_goto i8_changed_38 ?_
      obtain ⟨s1, s2, s3⟩ := step _ (by first | rw [if_pos (by omega)] | rw [if_neg (by omega)]) _ rfl
      exact ih (k + 1) _ (by omega) s1 s2 s3
theorem r_changed {d : Nat} {I : IE} {F : FE} {σ : Sg} (hG : CapG) (hB : BndG) (hd : 7 ≤ d) (hV : SV σ) (h1 : F 1 0 = gR σ) (h2 : F 1 1 = gC σ) (h3 : ∀ j, 0 ≤ j ∧ j < 8 → F 1 (2 + j) = gM σ j) (h4 : ∀ j, 0 ≤ j ∧ j < 4 → F 1 (10 + j) = gZ σ j) (h5 : ∀ j, 0 ≤ j ∧ j < 4 → F 1 (14 + j) = gY σ j) :
    MU m8_changed d shM [rv 0] I F (fun I' F' => DS (nwm σ) F' ∧ DB (nwm σ) I' F' ∧ (∀ a k, (a ≠ 0 ∨ (k ≠ 5 ∧ k ≠ 8)) → I' a k = I a k) ∧ ∀ a, a ≠ 1 → a ≠ 4 → a ≠ 5 → a ≠ 6 → F' a = F a) := by
  have hV0 := hV
  obtain ⟨v1, v2, v3, v4, v5, v6, v7, v8, v9⟩ := hV
  have hV' : SV (nwm σ) := ⟨v1, v2, v3, v4, v5, v6, v7, v8, fun k => by
    show (if (k : Int) < gk (gM σ) (gC σ) then (1 : Int) else 0) = 0 ∨ (if (k : Int) < gk (gM σ) (gC σ) then (1 : Int) else 0) = 1
    split
    · exact Or.inr rfl
    · exact Or.inl rfl⟩
  have hA' : AZ (nwm σ) := fun k hk => by
    have hk' : gk (gM σ) (gC σ) ≤ k := hk
    show (if (k : Int) < gk (gM σ) (gC σ) then (1 : Int) else 0) = 0
    rw [if_neg (by omega)]
  refine MS_of (ls := [lr 0, lu]) f8_changed rfl rfl (Nat.le_of_ble_eq_true rfl) ?_
  refine w_aload i8_changed_0 rfl ?_
  refine w_cVU i8_changed_1 f8_layBasis v8_layBasis (r_layBasis (M := gM σ) (n := gC σ) hG hB (by omega) ⟨h3, v3⟩ h2 v2 hV0.hz) rfl rfl (by decide) rfl rfl (Nat.le_of_ble_eq_true rfl) (by omega) (fun I1 F1 hq => ?_)
  obtain ⟨⟨f1, f2⟩, q1, q2, q3, q4⟩ := hq
  refine w_const i8_changed_4 ?_
  refine w_is1 i8_changed_5 ?_
  refine lr_ch (F := F1) q1 q2 (fun F2 p1 p2 p3 => ?_) 160 0 F1 (by omega) (fun _ _ => rfl) (fun i hi => absurd hi (Nat.not_lt_zero _)) (fun _ _ => rfl)
  have e1 : F1 1 = F 1 := f2 1 (by decide) (by decide) (by decide)
  refine w_vret i8_changed_41 rfl ⟨Nat.le_refl _, Nat.le_refl _⟩ ?_
  refine ⟨rfl, rfl, ⟨hV', hA', ?_, ?_, fun j hj => ?_, fun j hj => ?_, fun j hj => ?_, p2⟩, ⟨q1, q2, fun e he j hj => ?_, q4⟩, fun a k h => f1 a k h, fun a g1 g2 g3 g4 => by rw [p3 a g1, f2 a g2 g3 g4]⟩
  · rw [p1 0 (by decide), e1, h1]; rfl
  · rw [p1 1 (by decide), e1, h2]; rfl
  · rw [p1 _ (by omega), e1, h3 j hj]; rfl
  · rw [p1 _ (by omega), e1, h4 j hj]; rfl
  · rw [p1 _ (by omega), e1, h5 j hj]; rfl
  · have := q3 e he j hj
    unfold er at this ⊢
    rw [p3 4 (by decide)]
    exact this
theorem lr_kp1 {d n0 : Nat} {Q : PQ} {I : IE} {F : FE}
    (K : ∀ F', (∀ j, 0 ≤ j ∧ j < 1246 → F' 2 j = F 2 (j + 178)) → (∀ a, a ≠ 2 → F' a = F a) → WS m8_keep d 0 0 n0 Q 0 0 40 [lr 0, li 1246] [] shM I F') :
    ∀ (m k : Nat) (F' : FE), k + m = 1246 → (∀ j, 0 ≤ j ∧ j < (k : Int) → F' 2 j = F 2 (j + 178)) → (∀ j, (k : Int) ≤ j → F' 2 j = F 2 j) → (∀ a, a ≠ 2 → F' a = F a) → WS m8_keep d 0 0 n0 Q 0 0 11 [lr 0, li k] [] shM I F' := by
  intro m
  induction m with
  | zero =>
    intro k F' hk h1 h2 h3
    obtain rfl : k = 1246 := by omega
    refine w_iload i8_keep_11 rfl ?_
    refine w_const i8_keep_12 ?_
    refine w_icmpge i8_keep_15 (fun h15 => ?_) (fun h_ => absurd h_ (by omega))
    exact K F' h1 h3
  | succ m ih =>
    intro k F' hk h1 h2 h3
    refine w_iload i8_keep_11 rfl ?_
    refine w_const i8_keep_12 ?_
    refine w_icmpge i8_keep_15 (fun h_ => absurd h_ (by omega)) (fun h15 => ?_)
    refine w_aload i8_keep_18 rfl ?_
    refine w_getr i8_keep_19 rfl rfl ?_
    refine w_iload i8_keep_22 rfl ?_
    refine w_aload i8_keep_23 rfl ?_
    refine w_getr i8_keep_24 rfl rfl ?_
    refine w_iload i8_keep_27 rfl ?_
    refine w_const i8_keep_28 ?_
    refine w_iadd i8_keep_31 (by omega) ?_
    refine w_iald i8_keep_32 rfl (by omega) ?_
    refine w_iast i8_keep_33 rfl (by omega) ?_
    refine w_ii1 i8_keep_34 (by omega) ?_
    refine w_goto i8_keep_37 ?_
    refine ih (k + 1) _ (by omega) (fun j hj => ?_) (fun j hj => ?_) (fun a ha => ?_)
    · simp only [upF, true_and]
      by_cases c : j = k
      · rw [if_pos c, c]; exact h2 _ (by omega)
      · rw [if_neg c]; exact h1 j (by omega)
    · simp only [upF, true_and]
      rw [if_neg (by omega)]; exact h2 j (by omega)
    · funext j
      simp only [upF, ha, false_and, if_false]
      rw [h3 a ha]
theorem lr_kp2 {d n0 : Nat} {Q : PQ} {I : IE} {F : FE} {x : Option AV} {c : Int} (hc : 0 ≤ c ∧ c ≤ 7) (h2 : I 0 2 = c)
    (K : ∀ F', (∀ j, 0 ≤ j ∧ j < 178 → F' 2 (178 * c + j) = F 1 j) → (∀ j, j < 178 * c → F' 2 j = F 2 j) → (∀ a, a ≠ 2 → F' a = F a) → WS m8_keep d 0 0 n0 Q 0 0 86 [lr 0, li 178] [] shM I F') :
    ∀ (m k : Nat) (F' : FE), k + m = 178 → (∀ j, 0 ≤ j ∧ j < (k : Int) → F' 2 (178 * c + j) = F 1 j) → (∀ j, j < 178 * c → F' 2 j = F 2 j) → (∀ a, a ≠ 2 → F' a = F a) → WS m8_keep d 0 0 n0 Q 0 0 52 [lr 0, li k] [] shM I F' := by
  intro m
  induction m with
  | zero =>
    intro k F' hk h1 h2 h3
    obtain rfl : k = 178 := by omega
    refine w_iload i8_keep_52 rfl ?_
    refine w_const i8_keep_53 ?_
    refine w_icmpge i8_keep_56 (fun h56 => ?_) (fun h_ => absurd h_ (by omega))
    exact K F' h1 h2 h3
  | succ m ih =>
    intro k F' hk h1 h2' h3
    have e1 : F' 1 = F 1 := h3 1 (by decide)
    refine w_iload i8_keep_52 rfl ?_
    refine w_const i8_keep_53 ?_
    refine w_icmpge i8_keep_56 (fun h_ => absurd h_ (by omega)) (fun h56 => ?_)
    refine w_aload i8_keep_59 rfl ?_
    refine w_getr i8_keep_60 rfl rfl ?_
    refine w_const i8_keep_63 ?_
    refine w_aload i8_keep_66 rfl ?_
    refine w_get i8_keep_67 rfl rfl ?_
    rw [h2]
    refine w_imul i8_keep_70 (by omega) ?_
    refine w_iload i8_keep_71 rfl ?_
    refine w_iadd i8_keep_72 (by omega) ?_
    refine w_aload i8_keep_73 rfl ?_
    refine w_getr i8_keep_74 rfl rfl ?_
    refine w_iload i8_keep_77 rfl ?_
    refine w_iald i8_keep_78 rfl (by omega) ?_
    refine w_iast i8_keep_79 rfl (by omega) ?_
    refine w_ii1 i8_keep_80 (by omega) ?_
    refine w_goto i8_keep_83 ?_
    refine ih (k + 1) _ (by omega) (fun j hj => ?_) (fun j hj => ?_) (fun a ha => ?_)
    · simp only [upF, true_and]
      by_cases cj : j = k
      · rw [if_pos (by omega), cj, e1]
      · rw [if_neg (by omega)]; exact h1 j (by omega)
    · simp only [upF, true_and]
      rw [if_neg (by omega)]; exact h2' j hj
    · funext j
      simp only [upF, ha, false_and, if_false]
      rw [h3 a ha]
theorem r_keep {d : Nat} {I : IE} {F : FE} {S : Sx} (h : DI S I F) : MU m8_keep d shM [rv 0] I F (fun I' F' => DI (psh S) I' F' ∧ (∀ a k, (a ≠ 0 ∨ k ≠ 2) → I' a k = I a k) ∧ ∀ a, a ≠ 2 → F' a = F a) := by
  obtain ⟨⟨hS1, hS2, hS3⟩, hB, ⟨t1, t2, t3⟩, hT⟩ := h
  have tail : ∀ (x : Option AV) (c : Nat) (I1 : IE) (F1 : FE), c ≤ 7 → I1 0 2 = (c : Int) → (∀ a k, (a ≠ 0 ∨ k ≠ 2) → I1 a k = I a k) → (∀ a, a ≠ 2 → F1 a = F a) → (psh S).2.1.1 = c + 1 → (psh S).2.1.2 c = S.1 → (∀ i : Nat, i < c → SV ((psh S).2.1.2 i) ∧ AZ ((psh S).2.1.2 i) ∧ NB (fun j => F1 2 (178 * i + j)) ((psh S).2.1.2 i)) →
      WS m8_keep d 0 0 shM.length (fun r sh' I' F' => sh' = shM ∧ r = none ∧ DI (psh S) I' F' ∧ (∀ a k, (a ≠ 0 ∨ k ≠ 2) → I' a k = I a k) ∧ ∀ a, a ≠ 2 → F' a = F a) 0 0 50 [lr 0, x] [] shM I1 F1 := by
    intro x c I1 F1 hc hi hI hF hp1 hp2 hp3
    have e1 : F1 1 = F 1 := hF 1 (by decide)
    refine w_const i8_keep_50 ?_
    refine w_is1 i8_keep_51 ?_
    refine lr_kp2 (x := lu) (F := F1) (c := (c : Int)) (by omega) hi (fun F2 p1 p2 p3 => ?_) 178 0 F1 (by omega) (fun j hj => absurd hj (by omega)) (fun _ _ => rfl) (fun _ _ => rfl)
    refine w_aload i8_keep_86 rfl ?_
    refine w_dup i8_keep_87 ?_
    refine w_get i8_keep_88 rfl rfl ?_
    refine w_const i8_keep_91 ?_
    refine w_iadd i8_keep_92 (by omega) ?_
    refine w_put i8_keep_93 rfl rfl (Or.inl rfl) ?_
    refine w_vret i8_keep_96 rfl ⟨Nat.le_refl _, Nat.le_refl _⟩ ?_
    refine ⟨rfl, rfl, ⟨⟨hS1, hS2, ?_⟩, ?_, ⟨?_, ?_, fun i hi' => ?_⟩, ?_⟩, fun a k h => by simp only [upI]; rw [if_neg (by omega)]; exact hI a k h, fun a ha => by rw [p3 a ha, hF a ha]⟩
    · rw [p3 1 (by decide), e1]; exact hS3
    · exact DB.fr hB (by simp only [upI]; rw [if_neg (by omega)]; exact hI 0 5 (by omega)) (by rw [p3 4 (by decide), hF 4 (by decide)])
    · rw [hp1]; simp [upI, hi]
    · rw [hp1]; omega
    · rw [hp1] at hi'
      by_cases ci : i = c
      · rw [ci, hp2]
        exact ⟨hS1, hS2, hS3.ext (fun j hj => by rw [p1 j hj, e1])⟩
      · obtain ⟨a1, a2, a3⟩ := hp3 i (by omega)
        exact ⟨a1, a2, a3.ext (fun j hj => by show F2 2 (178 * (i : Int) + j) = F1 2 (178 * (i : Int) + j); rw [p2 _ (by omega)])⟩
    · exact DT.fr hT (by simp only [upI]; rw [if_neg (by omega)]; exact hI 0 4 (by omega)) (by rw [p3 3 (by decide), hF 3 (by decide)])
  refine MS_of (ls := [lr 0, lu]) f8_keep rfl rfl (Nat.le_of_ble_eq_true rfl) ?_
  by_cases c8 : S.2.1.1 = 8
  · have hp : psh S = (S.1, (8, fun i => if i < 7 then S.2.1.2 (i + 1) else S.1), S.2.2) := by unfold psh; rw [if_pos c8]
    refine w_aload i8_keep_0 rfl ?_
    refine w_get i8_keep_1 rfl rfl ?_
    refine w_const i8_keep_4 ?_
    refine w_icmpne i8_keep_6 (fun h_ => absurd h_ (by omega)) (fun h6 => ?_)
    refine w_const i8_keep_9 ?_
    refine w_is1 i8_keep_10 ?_
    refine lr_kp1 (F := F) (fun F1 p1 p3 => ?_) 1246 0 F (by omega) (fun j hj => absurd hj (by omega)) (fun _ _ => rfl) (fun _ _ => rfl)
    refine w_aload i8_keep_40 rfl ?_
    refine w_dup i8_keep_41 ?_
    refine w_get i8_keep_42 rfl rfl ?_
    refine w_const i8_keep_45 ?_
    refine w_isub i8_keep_46 (by omega) ?_
    refine w_put i8_keep_47 rfl rfl (Or.inl rfl) ?_
    refine tail _ 7 _ F1 (by decide) (by simp [upI]; omega) (fun a k h => by simp only [upI]; rw [if_neg (by omega)]) p3 (by rw [hp]) (by rw [hp]; rfl) (fun i hi => ?_)
    obtain ⟨a1, a2, a3⟩ := t3 (i + 1) (by omega)
    rw [hp]
    show SV (if i < 7 then S.2.1.2 (i + 1) else S.1) ∧ AZ (if i < 7 then S.2.1.2 (i + 1) else S.1) ∧ NB (fun j => F1 2 (178 * i + j)) (if i < 7 then S.2.1.2 (i + 1) else S.1)
    rw [if_pos hi]
    exact ⟨a1, a2, a3.ext (fun j hj => by show F1 2 (178 * (i : Int) + j) = F 2 (178 * ((i + 1 : Nat) : Int) + j); rw [p1 _ (by omega)]; congr 1; omega)⟩
  · have hp : psh S = (S.1, (S.2.1.1 + 1, fun i => if i = S.2.1.1 then S.1 else S.2.1.2 i), S.2.2) := by unfold psh; rw [if_neg c8]
    refine w_aload i8_keep_0 rfl ?_
    refine w_get i8_keep_1 rfl rfl ?_
    refine w_const i8_keep_4 ?_
    refine w_icmpne i8_keep_6 (fun h6 => ?_) (fun h_ => absurd h_ (by omega))
    refine tail _ S.2.1.1 I F (by omega) t1 (fun _ _ _ => rfl) (fun _ _ => rfl) (by rw [hp]) (by rw [hp]; exact if_pos rfl) (fun i hi => ?_)
    obtain ⟨a1, a2, a3⟩ := t3 i hi
    rw [hp]
    show SV (if i = S.2.1.1 then S.1 else S.2.1.2 i) ∧ AZ (if i = S.2.1.1 then S.1 else S.2.1.2 i) ∧ NB (fun j => F 2 (178 * i + j)) (if i = S.2.1.1 then S.1 else S.2.1.2 i)
    rw [if_neg (by omega)]
    exact ⟨a1, a2, a3⟩
