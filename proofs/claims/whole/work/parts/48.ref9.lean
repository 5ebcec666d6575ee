theorem lr_lb93 {d n0 : Nat} {Q : PQ} {I : IE} {F : FE} {r b N k : Int} (hk : 0 ≤ k ∧ k < 800) (hc : 0 ≤ I 0 5 ∧ I 0 5 < 160)
    (K : ∀ F', (∀ j, 0 ≤ j ∧ j < 4 → F' 4 (4 * I 0 5 + j) = F 5 (4 * k + j)) → (∀ i, i < 4 * I 0 5 → F' 4 i = F 4 i) → (∀ a, a ≠ 4 → F' a = F a) → WS m8_layBasis d 0 0 n0 Q 0 0 131 [lr 0, li r, li b, li N, li k, li 4] [] shM I F') :
    ∀ (m i : Nat) (F' : FE), i + m = 4 → (∀ j, 0 ≤ j ∧ j < (i : Int) → F' 4 (4 * I 0 5 + j) = F 5 (4 * k + j)) → (∀ i, i < 4 * I 0 5 → F' 4 i = F 4 i) → (∀ a, a ≠ 4 → F' a = F a) → WS m8_layBasis d 0 0 n0 Q 0 0 93 [lr 0, li r, li b, li N, li k, li i] [] shM I F' := by
  intro m
  induction m with
  | zero =>
    intro i F' hi h1 h2 h3
    obtain rfl : i = 4 := by omega
    refine w_iload i8_layBasis_93 rfl ?_
    refine w_const i8_layBasis_95 ?_
    refine w_icmpge i8_layBasis_96 (fun h96 => ?_) (fun h_ => absurd h_ (by omega))
    exact K F' h1 h2 h3
  | succ m ih =>
    intro i F' hi h1 h2 h3
    have e5 : F' 5 = F 5 := h3 5 (by decide)
    refine w_iload i8_layBasis_93 rfl ?_
    refine w_const i8_layBasis_95 ?_
    refine w_icmpge i8_layBasis_96 (fun h_ => absurd h_ (by omega)) (fun h96 => ?_)
    refine w_aload i8_layBasis_99 rfl ?_
    refine w_getr i8_layBasis_100 rfl rfl ?_
    refine w_const i8_layBasis_103 ?_
    refine w_aload i8_layBasis_104 rfl ?_
    refine w_get i8_layBasis_105 rfl rfl ?_
    refine w_imul i8_layBasis_108 (by omega) ?_
    refine w_iload i8_layBasis_109 rfl ?_
    refine w_iadd i8_layBasis_111 (by omega) ?_
    refine w_aload i8_layBasis_112 rfl ?_
    refine w_getr i8_layBasis_113 rfl rfl ?_
    refine w_const i8_layBasis_116 ?_
    refine w_iload i8_layBasis_117 rfl ?_
    refine w_imul i8_layBasis_119 (by omega) ?_
    refine w_iload i8_layBasis_120 rfl ?_
    refine w_iadd i8_layBasis_122 (by omega) ?_
    refine w_iald i8_layBasis_123 rfl (by omega) ?_
    refine w_iast i8_layBasis_124 rfl (by omega) ?_
    refine w_ii5 i8_layBasis_125 (by omega) ?_
    refine w_goto i8_layBasis_128 ?_
    refine ih (i + 1) _ (by omega) (fun j hj => ?_) (fun x hx => ?_) (fun a ha => ?_)
    · simp only [upF, true_and]
      by_cases c : j = i
      · rw [if_pos (by omega), c, e5]
      · rw [if_neg (by omega)]; exact h1 j (by omega)
    · simp only [upF, true_and]
      rw [if_neg (by omega)]; exact h2 x hx
    · funext x
      simp only [upF, ha, false_and, if_false]
      rw [h3 a ha]
/-- what the basis' making changes -/
def Gfr (I I' : IE) (F F' : FE) : Prop := (∀ a k, (a ≠ 0 ∨ k ≠ 5) → I' a k = I a k) ∧ ∀ a, a ≠ 4 → F' a = F a
theorem er_b {M : Int → Int} {n b m N k c : Int} {K E : Int → Int → Int} (hb : b ≤ 18) (h : LBI M n b m N k K c E) : ∀ e, 0 ≤ e ∧ e < c → ∀ j, 0 ≤ j ∧ j < 4 → -100 ≤ E e j ∧ E e j ≤ 100 := fun e he j hj => by
  have g := (h.2.1 e he).1
  by_cases cj : j < n
  · have := g.2.1 j (by omega); omega
  · rw [g.2.2.2 j (by omega)]; decide
theorem lr_lb47 {d n0 : Nat} {Q : PQ} {I : IE} {F : FE} {M : Int → Int} {r b n m N : Int} {K : Int → Int → Int} {y : Option AV} (hG : CapG) (hd : 3 ≤ d) (hn : 2 ≤ n ∧ n ≤ 4) (hM : ∀ j, 0 ≤ M j ∧ M j ≤ 3) (hb : 1 ≤ b ∧ b ≤ 18) (h8 : I 0 8 = m) (hK : K = kr F) (hF : KFin M n b m K)
    (Kn : ∀ y I' F', Gfr I I' F F' → LBI M n b m N m K (I' 0 5) (er F') → WS m8_layBasis d 0 0 n0 Q 0 0 147 [lr 0, li r, li b, li N, li m, y] [] shM I' F') :
    ∀ (w k : Nat) (y : Option AV) (I' : IE) (F' : FE), (k + w : Int) = m → Gfr I I' F F' → LBI M n b m N k K (I' 0 5) (er F') → WS m8_layBasis d 0 0 n0 Q 0 0 47 [lr 0, li r, li b, li N, li k, y] [] shM I' F' := by
  have hm := hF.1
  intro w
  induction w with
  | zero =>
    intro k y I' F' hk hf hL
    have ek : (k : Int) = m := by omega
    have e8 : I' 0 8 = m := by rw [hf.1 0 8 (by omega), h8]
    rw [ek] at hL ⊢
    refine w_iload i8_layBasis_47 rfl ?_
    refine w_aload i8_layBasis_49 rfl ?_
    refine w_get i8_layBasis_50 rfl rfl ?_
    refine w_icmpge i8_layBasis_53 (fun h53 => ?_) (fun h_ => absurd h_ (by omega))
    exact Kn y I' F' hf hL
  | succ w ih =>
    intro k y I' F' hk hf hL
    have e8 : I' 0 8 = m := by rw [hf.1 0 8 (by omega), h8]
    have f5 : F' 5 = F 5 := hf.2 5 (by decide)
    have ekr : kr F' = K := by rw [hK]; funext i j; unfold kr; rw [f5]
    have c15 := hL.cap hG hn hM
    have c0 := hL.1
    have ek : ((k + 1 : Nat) : Int) = (k : Int) + 1 := by omega
    have kC := (hF.2.1 k (by omega)).1
    have kb : ∀ j, 0 ≤ j ∧ j < 4 → -100 ≤ K k j ∧ K k j ≤ 100 := fun j hj => by
      by_cases cj : j < n
      · have := kC.2.1 j (by omega); omega
      · rw [kC.2.2.2 j (by omega)]; decide
    have nx : ∀ (y : Option AV), LBI M n b m N ((k : Int) + 1) K (I' 0 5) (er F') → WS m8_layBasis d 0 0 n0 Q 0 0 47 [lr 0, li r, li b, li N, li ((k : Int) + 1), y] [] shM I' F' := fun y h => by
      rw [← ek]
      exact ih (k + 1) y I' F' (by omega) hf (by rw [ek]; exact h)
    by_cases hs : asum (K k) 4 = N
    · by_cases hl : lst (er F') (K k) (I' 0 5)
      · refine w_iload i8_layBasis_47 rfl ?_
        refine w_aload i8_layBasis_49 rfl ?_
        refine w_get i8_layBasis_50 rfl rfl ?_
        refine w_icmpge i8_layBasis_53 (fun h_ => absurd h_ (by omega)) (fun h53 => ?_)
        refine w_aload i8_layBasis_56 rfl ?_
        refine w_getr i8_layBasis_57 rfl rfl ?_
        refine w_const i8_layBasis_60 ?_
        refine w_iload i8_layBasis_61 rfl ?_
        refine w_imul i8_layBasis_63 (by omega) ?_
        refine w_cSR i8_layBasis_64 f8_norm v8_norm (r_norm (v := K k) (N := 3200) (by omega) (by omega) rfl (by omega) (fun j hj => ⟨by rw [← ekr]; rfl, by have := kb j hj; omega⟩)) rfl rfl (Nat.le_of_ble_eq_true rfl) (by omega) ?_
        refine w_iload i8_layBasis_67 rfl ?_
        refine w_icmpne i8_layBasis_68 (fun h_ => absurd h_ (by omega)) (fun h68 => ?_)
        refine w_aload i8_layBasis_71 rfl ?_
        refine w_iload i8_layBasis_72 rfl ?_
        refine w_cVP i8_layBasis_74 f8_isLeast v8_isLeast (r_isLeast (by omega) (by omega) (by omega) (er_b hb.2 hL) (by rw [ekr]; exact kb)) rfl rfl (by decide) rfl rfl (Nat.le_of_ble_eq_true rfl) (by omega) (fun v hv => ?_)
        refine w_ifeq i8_layBasis_77 (fun h_ => absurd h_ (by rcases hv with ⟨g, -⟩ | ⟨-, g⟩; omega; exact absurd (by rw [ekr]; exact hl) g)) (fun h77 => ?_)
        refine w_aload i8_layBasis_80 rfl ?_
        refine w_get i8_layBasis_81 rfl rfl ?_
        refine w_const i8_layBasis_84 ?_
        refine w_icmpge i8_layBasis_87 (fun h_ => absurd h_ (by omega)) (fun h87 => ?_)
        refine w_const i8_layBasis_90 ?_
        refine w_is5 i8_layBasis_91 ?_
        refine lr_lb93 (by omega) (by omega) (fun F1 p1 p2 p3 => ?_) 4 0 F' (by omega) (fun j hj => absurd hj (by omega)) (fun _ _ => rfl) (fun _ _ => rfl)
        refine w_aload i8_layBasis_131 rfl ?_
        refine w_dup i8_layBasis_132 ?_
        refine w_get i8_layBasis_133 rfl rfl ?_
        refine w_const i8_layBasis_136 ?_
        refine w_iadd i8_layBasis_137 (by omega) ?_
        refine w_put i8_layBasis_138 rfl rfl (Or.inl rfl) ?_
        refine w_ii4 i8_layBasis_141 (by omega) ?_
        refine w_goto i8_layBasis_144 ?_
        rw [← ek]
        have i5 : upI I' 0 5 (I' 0 5 + 1) 0 5 = I' 0 5 + 1 := by simp [upI]
        refine ih (k + 1) _ _ F1 (by omega) ⟨fun a j h => by simp only [upI]; rw [if_neg (by omega)]; exact hf.1 a j h, fun a ha => by rw [p3 a ha, hf.2 a ha]⟩ ?_
        rw [i5, ek]
        refine hL.put hn hF (by omega) hs hl (fun x hx j hj => ?_) (fun j hj => ?_)
        · unfold er
          exact p2 _ (by omega)
        · have g : kr F' k j = F' 5 (4 * (k : Int) + j) := rfl
          rw [ekr] at g
          rw [g]
          exact p1 j hj
      · refine w_iload i8_layBasis_47 rfl ?_
        refine w_aload i8_layBasis_49 rfl ?_
        refine w_get i8_layBasis_50 rfl rfl ?_
        refine w_icmpge i8_layBasis_53 (fun h_ => absurd h_ (by omega)) (fun h53 => ?_)
        refine w_aload i8_layBasis_56 rfl ?_
        refine w_getr i8_layBasis_57 rfl rfl ?_
        refine w_const i8_layBasis_60 ?_
        refine w_iload i8_layBasis_61 rfl ?_
        refine w_imul i8_layBasis_63 (by omega) ?_
        refine w_cSR i8_layBasis_64 f8_norm v8_norm (r_norm (v := K k) (N := 3200) (by omega) (by omega) rfl (by omega) (fun j hj => ⟨by rw [← ekr]; rfl, by have := kb j hj; omega⟩)) rfl rfl (Nat.le_of_ble_eq_true rfl) (by omega) ?_
        refine w_iload i8_layBasis_67 rfl ?_
        refine w_icmpne i8_layBasis_68 (fun h_ => absurd h_ (by omega)) (fun h68 => ?_)
        refine w_aload i8_layBasis_71 rfl ?_
        refine w_iload i8_layBasis_72 rfl ?_
        refine w_cVP i8_layBasis_74 f8_isLeast v8_isLeast (r_isLeast (by omega) (by omega) (by omega) (er_b hb.2 hL) (by rw [ekr]; exact kb)) rfl rfl (by decide) rfl rfl (Nat.le_of_ble_eq_true rfl) (by omega) (fun v hv => ?_)
        refine w_ifeq i8_layBasis_77 (fun h77 => ?_) (fun h_ => absurd h_ (by rcases hv with ⟨-, g⟩ | ⟨g, -⟩; exact absurd (by rw [← ekr]; exact g) hl; omega))
        refine w_ii4 i8_layBasis_141 (by omega) ?_
        refine w_goto i8_layBasis_144 ?_
        exact nx _ (hL.no hn hl)
    · refine w_iload i8_layBasis_47 rfl ?_
      refine w_aload i8_layBasis_49 rfl ?_
      refine w_get i8_layBasis_50 rfl rfl ?_
      refine w_icmpge i8_layBasis_53 (fun h_ => absurd h_ (by omega)) (fun h53 => ?_)
      refine w_aload i8_layBasis_56 rfl ?_
      refine w_getr i8_layBasis_57 rfl rfl ?_
      refine w_const i8_layBasis_60 ?_
      refine w_iload i8_layBasis_61 rfl ?_
      refine w_imul i8_layBasis_63 (by omega) ?_
      refine w_cSR i8_layBasis_64 f8_norm v8_norm (r_norm (v := K k) (N := 3200) (by omega) (by omega) rfl (by omega) (fun j hj => ⟨by rw [← ekr]; rfl, by have := kb j hj; omega⟩)) rfl rfl (Nat.le_of_ble_eq_true rfl) (by omega) ?_
      refine w_iload i8_layBasis_67 rfl ?_
      refine w_icmpne i8_layBasis_68 (fun h68 => ?_) (fun h_ => absurd h_ (by omega))
      refine w_ii4 i8_layBasis_141 (by omega) ?_
      refine w_goto i8_layBasis_144 ?_
      exact nx _ (hL.skip hs)
theorem lr_lb37 {d n0 : Nat} {Q : PQ} {I : IE} {F : FE} {M : Int → Int} {r b n m : Int} {K : Int → Int → Int} (hG : CapG) (hd : 3 ≤ d) (hn : 2 ≤ n ∧ n ≤ 4) (hM : ∀ j, 0 ≤ M j ∧ M j ≤ 3) (hb : 1 ≤ b ∧ b ≤ 18) (h8 : I 0 8 = m) (hK : K = kr F) (hF : KFin M n b m K)
    (Kn : ∀ x y I' F', Gfr I I' F F' → LBI M n b m (4 * b + 1) 0 K (I' 0 5) (er F') → WS m8_layBasis d 0 0 n0 Q 0 0 153 [lr 0, li r, li b, li (4 * b + 1), x, y] [] shM I' F') :
    ∀ (w N : Nat) (x y : Option AV) (I' : IE) (F' : FE), (N + w : Int) = 4 * b + 1 → Gfr I I' F F' → LBI M n b m N 0 K (I' 0 5) (er F') → WS m8_layBasis d 0 0 n0 Q 0 0 37 [lr 0, li r, li b, li N, x, y] [] shM I' F' := by
  have hm := hF.1
  intro w
  induction w with
  | zero =>
    intro N x y I' F' hN hf hL
    have eN : (N : Int) = 4 * b + 1 := by omega
    rw [eN] at hL ⊢
    refine w_iload i8_layBasis_37 rfl ?_
    refine w_const i8_layBasis_38 ?_
    refine w_iload i8_layBasis_39 rfl ?_
    refine w_imul i8_layBasis_40 (by omega) ?_
    refine w_icmpgt i8_layBasis_41 (fun h41 => ?_) (fun h_ => absurd h_ (by omega))
    exact Kn x y I' F' hf hL
  | succ w ih =>
    intro N x y I' F' hN hf hL
    have e8 : I' 0 8 = m := by rw [hf.1 0 8 (by omega), h8]
    have f5 : F' 5 = F 5 := hf.2 5 (by decide)
    have ekr : K = kr F' := by rw [hK]; funext i j; unfold kr; rw [f5]
    have eN : ((N + 1 : Nat) : Int) = (N : Int) + 1 := by omega
    refine w_iload i8_layBasis_37 rfl ?_
    refine w_const i8_layBasis_38 ?_
    refine w_iload i8_layBasis_39 rfl ?_
    refine w_imul i8_layBasis_40 (by omega) ?_
    refine w_icmpgt i8_layBasis_41 (fun h_ => absurd h_ (by omega)) (fun h41 => ?_)
    refine w_const i8_layBasis_44 ?_
    refine w_is4 i8_layBasis_45 ?_
    refine lr_lb47 (I := I') (F := F') (m := m) (N := N) (r := r) (y := y) hG hd hn hM hb e8 ekr hF (fun y1 I1 F1 g1 g2 => ?_) m.toNat 0 y I' F' (by omega) ⟨fun _ _ _ => rfl, fun _ _ => rfl⟩ hL
    refine w_ii3 i8_layBasis_147 (by omega) ?_
    refine w_goto i8_layBasis_150 ?_
    rw [← eN]
    exact ih (N + 1) _ _ I1 F1 (by omega) ⟨fun a k h => by rw [g1.1 a k h, hf.1 a k h], fun a h => by rw [g1.2 a h, hf.2 a h]⟩ (by rw [eN]; exact g2.next)
/-- what may be changed by the making of the basis, the kernel's list included -/
def Bfm (I I' : IE) (F F' : FE) : Prop := (∀ a k, (a ≠ 0 ∨ (k ≠ 5 ∧ k ≠ 8)) → I' a k = I a k) ∧ ∀ a, a ≠ 4 → a ≠ 5 → a ≠ 6 → F' a = F a
theorem r_layBasis {d : Nat} {I : IE} {F : FE} {M : Int → Int} {n : Int} (hG : CapG) (hB : BndG) (hd : 6 ≤ d) (hM : NM M F) (hn1 : F 1 1 = n) (hn : 2 ≤ n ∧ n ≤ 4) (hz : ∀ j, n ≤ j ∧ j < 4 → M j = 0 ∧ M (4 + j) = 0) : MU m8_layBasis d shM [rv 0] I F (fun I' F' => Bfm I I' F F' ∧ I' 0 5 = gk M n ∧ (0 ≤ gk M n ∧ gk M n ≤ 15) ∧ (∀ e, 0 ≤ e ∧ e < gk M n → ∀ j, 0 ≤ j ∧ j < 4 → er F' e j = gE M n e j) ∧ Bas M n (gk M n, grk M n, gE M n)) := by
  have body : ∀ (r b b' : Int), PVr M n r b' → PVq M n r b → b' ≤ b → 1 ≤ b ∧ b ≤ 18 → WS m8_layBasis d 0 0 shM.length (fun rr sh' I' F' => sh' = shM ∧ rr = none ∧ (Bfm I I' F F' ∧ I' 0 5 = gk M n ∧ (0 ≤ gk M n ∧ gk M n ≤ 15) ∧ (∀ e, 0 ≤ e ∧ e < gk M n → ∀ j, 0 ≤ j ∧ j < 4 → er F' e j = gE M n e j) ∧ Bas M n (gk M n, grk M n, gE M n))) 0 0 24 [lr 0, li r, lu, lu, lu, lu] [.inl b] shM I F := by
    intro r b b' hP hPq hbb hb
    refine w_is2 i8_layBasis_24 ?_
    refine w_aload i8_layBasis_25 rfl ?_
    refine w_iload i8_layBasis_26 rfl ?_
    refine w_cVU i8_layBasis_27 f8_layKernel v8_layKernel (r_layKernel (by omega) hM hn1 hn hPq) rfl rfl (by decide) rfl rfl (Nat.le_of_ble_eq_true rfl) (by omega) (fun I1 F1 hq => ?_)
    refine w_aload i8_layBasis_30 rfl ?_
    refine w_const i8_layBasis_31 ?_
    refine w_put i8_layBasis_32 rfl rfl (Or.inl rfl) ?_
    refine w_const i8_layBasis_35 ?_
    refine w_is3 i8_layBasis_36 ?_
    obtain ⟨hf, hF⟩ := hq
    have u8 : upI I1 0 5 0 0 8 = I1 0 8 := by simp [upI]
    have u5 : upI I1 0 5 0 0 5 = 0 := by simp [upI]
    refine lr_lb37 (I := upI I1 0 5 0) (F := F1) (M := M) (n := n) (m := I1 0 8) (K := kr F1) hG (by omega) hn hM.2 hb u8 rfl hF (fun x y I2 F2 g1 g2 => ?_) (4 * b).toNat 1 _ _ _ F1 (by omega) ⟨fun _ _ _ => rfl, fun _ _ => rfl⟩ ?_
    · have hBas := g2.fin hB hn hM.2 hP hbb hb.1 hF
      have eq := hBas.eq (by omega)
      have cap := g2.cap hG hn hM.2
      have c0 := g2.1
      refine w_vret i8_layBasis_153 rfl ⟨Nat.le_refl _, Nat.le_refl _⟩ ⟨rfl, rfl, ⟨fun a k h => by rw [g1.1 a k (by omega)]; simp only [upI]; rw [if_neg (by omega)]; exact hf.1 a k (by omega), fun a h1 h2 h3 => by rw [g1.2 a h1, hf.2 a h2 h3]⟩, eq.1, by rw [← eq.1]; exact ⟨c0, cap⟩, fun e he j hj => eq.2.2.1 e (by rw [eq.1]; exact he) j hj, eq.2.2.2⟩
    · rw [u5]
      refine ⟨Int.le_refl _, fun e he => absurd he (by omega), fun e e' he => absurd he (by omega), fun i hi hp => ?_⟩
      have kl := (hF.2.1 i hi).1
      obtain ⟨q, q0, q1, q2, q3⟩ := kl.2.2.1
      have := asum_pos (f := kr F1 i) (j := q) 4 (by omega) (by omega)
      rcases hp with hp | hp <;> omega
  refine MS_of (ls := [lr 0, lu, lu, lu, lu, lu]) f8_layBasis rfl rfl (Nat.le_of_ble_eq_true rfl) ?_
  refine w_aload i8_layBasis_0 rfl ?_
  refine w_cVP i8_layBasis_1 f8_rankOf v8_rankOf (r_rankOf (by omega) hM (by omega) hz) rfl rfl (by decide) rfl rfl (Nat.le_of_ble_eq_true rfl) (by omega) (fun r hr => ?_)
  obtain ⟨b', hP⟩ := hr
  refine w_is1 i8_layBasis_4 ?_
  refine w_iload i8_layBasis_5 rfl ?_
  refine w_ifne i8_layBasis_6 (fun h6 => ?_) (fun h6 => ?_)
  · refine w_iload i8_layBasis_13 rfl ?_
    refine w_const i8_layBasis_14 ?_
    refine w_icmpne i8_layBasis_15 (fun h15 => ?_) (fun h15 => ?_)
    · refine w_const i8_layBasis_22 ?_
      first
      | (have hr0 : r = 0 := by omega
         rcases id hP with ⟨g1, g2, g3⟩ | ⟨g1, g2, g3, g4⟩ | ⟨g1, g2, g3⟩
         · exact body r 1 b' hP (Or.inl ⟨g1, rfl, g3⟩) (by omega) (by decide)
         · omega
         · omega)
      | (have hr1 : r = 1 := by omega
         rcases id hP with ⟨g1, g2, g3⟩ | ⟨g1, g2, g3, g4⟩ | ⟨g1, g2, g3⟩
         · omega
         · exact body r 3 b' hP (Or.inr (Or.inl ⟨g1, rfl, g3, g4⟩)) (by omega) (by decide)
         · omega)
      | (rcases id hP with ⟨g1, g2, g3⟩ | ⟨g1, g2, g3, g4⟩ | ⟨g1, g2, g3⟩
         · omega
         · omega
         · exact body r 18 b' hP (Or.inr (Or.inr ⟨g1, rfl, g3⟩)) (by omega) (by decide))
    · refine w_const i8_layBasis_18 ?_
      refine w_goto i8_layBasis_19 ?_
      first
      | (have hr0 : r = 0 := by omega
         rcases id hP with ⟨g1, g2, g3⟩ | ⟨g1, g2, g3, g4⟩ | ⟨g1, g2, g3⟩
         · exact body r 1 b' hP (Or.inl ⟨g1, rfl, g3⟩) (by omega) (by decide)
         · omega
         · omega)
      | (have hr1 : r = 1 := by omega
         rcases id hP with ⟨g1, g2, g3⟩ | ⟨g1, g2, g3, g4⟩ | ⟨g1, g2, g3⟩
         · omega
         · exact body r 3 b' hP (Or.inr (Or.inl ⟨g1, rfl, g3, g4⟩)) (by omega) (by decide)
         · omega)
      | (rcases id hP with ⟨g1, g2, g3⟩ | ⟨g1, g2, g3, g4⟩ | ⟨g1, g2, g3⟩
         · omega
         · omega
         · exact body r 18 b' hP (Or.inr (Or.inr ⟨g1, rfl, g3⟩)) (by omega) (by decide))
  · refine w_const i8_layBasis_9 ?_
    refine w_goto i8_layBasis_10 ?_
    first
    | (have hr0 : r = 0 := by omega
       rcases id hP with ⟨g1, g2, g3⟩ | ⟨g1, g2, g3, g4⟩ | ⟨g1, g2, g3⟩
       · exact body r 1 b' hP (Or.inl ⟨g1, rfl, g3⟩) (by omega) (by decide)
       · omega
       · omega)
    | (have hr1 : r = 1 := by omega
       rcases id hP with ⟨g1, g2, g3⟩ | ⟨g1, g2, g3, g4⟩ | ⟨g1, g2, g3⟩
       · omega
       · exact body r 3 b' hP (Or.inr (Or.inl ⟨g1, rfl, g3, g4⟩)) (by omega) (by decide)
       · omega)
    | (rcases id hP with ⟨g1, g2, g3⟩ | ⟨g1, g2, g3, g4⟩ | ⟨g1, g2, g3⟩
       · omega
       · omega
       · exact body r 18 b' hP (Or.inr (Or.inr ⟨g1, rfl, g3⟩)) (by omega) (by decide))
