theorem l1_addRows {d n0 : Nat} {Q : PQ} {I : IE} {F : FE} {b N : Nat} {s t a0 a1 l1 l2 v : Int} (hB : FbAt b N) (hd : 3 ≤ d) (hC : Col F b) (ha : (0 ≤ a0 ∧ a0 ≤ 127) ∧ (0 ≤ a1 ∧ a1 ≤ 127)) (hz : ∀ i, 0 ≤ i ∧ i < 2 → F (b + 1) i = 0 → F (b + 2) i = 0 → (if i = 0 then a0 else a1) = 0)
    (e1 : F (b + 1) 0 * a0 + F (b + 1) 1 * a1 + l1 = s) (e2 : F (b + 2) 0 * a0 + F (b + 2) 1 * a1 + l2 = t) (hl1 : 0 ≤ l1 ∧ l1 ≤ 127) (hl2 : 0 ≤ l2 ∧ l2 ≤ 127) (hst : s ≤ 127 ∧ t ≤ 127) (hcap : ∀ p m f, LInv (F (b + 1)) (F (b + 2)) s t p m f → m ≤ N) (hN : N ≤ 2048) (hv : MostP (F (b + 1) 2) (F (b + 2) 2) l1 l2 v)
    (K : ∀ x x6 x7 x8 I' F', Ffr b I I' F F' → LInv (F (b + 1)) (F (b + 2)) s t ((a0 * 128 + a1) * 128 + v + 1) (I' b 0) (F' (b + 3)) → WS m1_addRows d 0 0 n0 Q 0 0 134 [lr b, li (a0 * 128 + a1), li l1, li l2, li v, x, x6, x7, x8] [] shX I' F') :
    ∀ (m k : Nat) (x6 x7 x8 : Option AV) (I' : IE) (F' : FE), (k + m : Int) = v + 1 → Ffr b I I' F F' → LInv (F (b + 1)) (F (b + 2)) s t ((a0 * 128 + a1) * 128 + k) (I' b 0) (F' (b + 3)) → WS m1_addRows d 0 0 n0 Q 0 0 12 [lr b, li (a0 * 128 + a1), li l1, li l2, li v, li k, x6, x7, x8] [] shX I' F' := by
  have hv127 := hv.1
  intro m
  induction m with
  | zero =>
    intro k x6 x7 x8 I' F' hk hf hL
    have ek : (k : Int) = v + 1 := by omega
    refine w_iload i1_addRows_12 rfl ?_
    refine w_iload i1_addRows_14 rfl ?_
    refine w_icmpgt i1_addRows_16 (fun h16 => ?_) (fun h_ => absurd h_ (by omega))
    refine K _ _ _ _ I' F' hf ?_
    rw [show (a0 * 128 + a1) * 128 + v + 1 = (a0 * 128 + a1) * 128 + k by omega]
    exact hL
  | succ m ih =>
    intro k x6 x7 x8 I' F' hk hf hL
    have f1 : F' (b + 1) = F (b + 1) := hf.2 _ (by omega)
    have f2 : F' (b + 2) = F (b + 2) := hf.2 _ (by omega)
    have hkv := (hv.2 k (by omega)).mp (by omega)
    have m1 := mul_le3 (hC.1 2 (by decide)) (y := (k : Int)) (B := 127) (by omega)
    have m2 := mul_le3 (hC.2.1 2 (by decide)) (y := (k : Int)) (B := 127) (by omega)
    have hzk : ∀ i, 0 ≤ i ∧ i < 3 → F (b + 1) i = 0 → F (b + 2) i = 0 → (if i = 0 then a0 else if i = 1 then a1 else (k : Int)) = 0 := fun i hi q1 q2 => by
      rcases (show i = 0 ∨ i = 1 ∨ i = 2 by omega) with rfl | rfl | rfl
      · exact hz 0 (by decide) q1 q2
      · exact hz 1 (by decide) q1 q2
      · exact hkv.2.2.2 q1 q2
    have esh : borI (shlI (a0 * 128 + a1) 7) k = (a0 * 128 + a1) * 2 ^ 7 + k := shor (k := 7) (by omega) (by decide) (by omega) (by omega)
    have esh2 : (a0 * 128 + a1) * 2 ^ 7 + (k : Int) = (a0 * 128 + a1) * 128 + k := by omega
    have u3 := hC.1 3 (by decide)
    have t3 := hC.2.1 3 (by decide)
    have hcm := hcap _ _ _ hL
    have hb0 := hL.1
    have next : ∀ x6 x7 x8 I2 F2, Ffr b I' I2 F' F2 → LInv (F (b + 1)) (F (b + 2)) s t ((a0 * 128 + a1) * 128 + k + 1) (I2 b 0) (F2 (b + 3)) → WS m1_addRows d 0 0 n0 Q 0 0 12 [lr b, li (a0 * 128 + a1), li l1, li l2, li v, li (k + 1 : Int), x6, x7, x8] [] shX I2 F2 := fun x6 x7 x8 I2 F2 g1 g2 => by
      refine ih (k + 1) x6 x7 x8 I2 F2 (by omega) (hf.tr g1) ?_
      rw [show (a0 * 128 + a1) * 128 + ((k + 1 : Nat) : Int) = (a0 * 128 + a1) * 128 + k + 1 by omega]
      exact g2
    refine w_iload i1_addRows_12 rfl ?_
    refine w_iload i1_addRows_14 rfl ?_
    refine w_icmpgt i1_addRows_16 (fun h_ => absurd h_ (by omega)) (fun h16 => ?_)
    refine w_iload i1_addRows_19 rfl ?_
    refine w_aload i1_addRows_20 rfl ?_
    refine w_getr i1_addRows_21 hB.1 rfl ?_
    refine w_const i1_addRows_24 ?_
    refine w_iald i1_addRows_25 hB.2.1 (by omega) ?_
    rw [f1]
    refine w_iload i1_addRows_26 rfl ?_
    refine w_imul i1_addRows_28 (by omega) ?_
    refine w_isub i1_addRows_29 (by omega) ?_
    refine w_is6 i1_addRows_30 ?_
    refine w_iload i1_addRows_32 rfl ?_
    refine w_aload i1_addRows_33 rfl ?_
    refine w_getr i1_addRows_34 hB.1 rfl ?_
    refine w_const i1_addRows_37 ?_
    refine w_iald i1_addRows_38 hB.2.2.1 (by omega) ?_
    rw [f2]
    refine w_iload i1_addRows_39 rfl ?_
    refine w_imul i1_addRows_41 (by omega) ?_
    refine w_isub i1_addRows_42 (by omega) ?_
    refine w_is7 i1_addRows_43 ?_
    refine w_aload i1_addRows_45 rfl ?_
    refine w_const i1_addRows_46 ?_
    refine w_iload i1_addRows_47 rfl ?_
    refine w_iload i1_addRows_49 rfl ?_
    refine w_cVP i1_addRows_51 f1_most v1_most (s1_most hB (by omega) (by decide) (by omega) (by omega) (by rw [f1]; exact u3) (by rw [f2]; exact t3)) rfl hB.1 (by decide) rfl rfl (Nat.le_of_ble_eq_true rfl) (by omega) (fun w hw => ?_)
    rw [f1, f2] at hw
    have hw127 := hw.1
    have w1 := mul_le3 u3 hw127
    have w2 := mul_le3 t3 hw127
    have esh3 : borI (shlI ((a0 * 128 + a1) * 128 + k) 7) w = ((a0 * 128 + a1) * 128 + k) * 2 ^ 7 + w := shor (k := 7) (by omega) (by decide) (by omega) (by omega)
    obtain ⟨none, full⟩ := one_turn (N := N) hC ⟨ha.1, ha.2, by omega⟩ hzk (l1 := l1 - F (b + 1) 2 * k) (l2 := l2 - F (b + 2) 2 * k) (by omega) (by omega) (by omega) (by omega) hL hcap hw
    refine w_is8 i1_addRows_54 ?_
    refine w_aload i1_addRows_56 rfl ?_
    refine w_getr i1_addRows_57 hB.1 rfl ?_
    refine w_const i1_addRows_60 ?_
    refine w_iald i1_addRows_61 hB.2.1 (by omega) ?_
    rw [f1]
    refine w_iload i1_addRows_62 rfl ?_
    refine w_imul i1_addRows_64 (by omega) ?_
    refine w_iload i1_addRows_65 rfl ?_
    refine w_icmpne i1_addRows_67 (fun h67 => ?_) (fun h67 => ?_)
    · refine w_ii5 i1_addRows_128 (by omega) ?_
      refine w_goto i1_addRows_131 ?_
      first
      | (have h67' : ¬ F (b + 1) 3 * w = l1 - F (b + 1) 2 * k := h67
         exact next _ _ _ _ _ Ffr.rf (none (fun z => h67 z.1)))
      | (have h81' : ¬ F (b + 2) 3 * w = l2 - F (b + 2) 2 * k := h81
         exact next _ _ _ _ _ Ffr.rf (none (fun z => h81 z.2)))
      | (refine next _ _ _ _ _ ⟨fun a k ha' => by simp only [upI]; rw [if_neg (by omega)], fun a ha' => by funext i; simp only [upF, ha', false_and, if_false]⟩ ?_
         have := fill (upF F' (b + 3) (I' b 0) (((a0 * 128 + a1) * 128 + k) * 2 ^ 7 + w) (b + 3)) (fun i hi => by simp only [upF, true_and]; rw [if_neg (by omega)]) (by simp only [upF, true_and, if_true]; omega)
         simp only [upI, true_and, if_true]
         exact this)
    · refine w_aload i1_addRows_70 rfl ?_
      refine w_getr i1_addRows_71 hB.1 rfl ?_
      refine w_const i1_addRows_74 ?_
      refine w_iald i1_addRows_75 hB.2.2.1 (by omega) ?_
      rw [f2]
      refine w_iload i1_addRows_76 rfl ?_
      refine w_imul i1_addRows_78 (by omega) ?_
      refine w_iload i1_addRows_79 rfl ?_
      refine w_icmpne i1_addRows_81 (fun h81 => ?_) (fun h81 => ?_)
      · refine w_ii5 i1_addRows_128 (by omega) ?_
        refine w_goto i1_addRows_131 ?_
        first
        | (have h67' : ¬ F (b + 1) 3 * w = l1 - F (b + 1) 2 * k := h67
           exact next _ _ _ _ _ Ffr.rf (none (fun z => h67 z.1)))
        | (have h81' : ¬ F (b + 2) 3 * w = l2 - F (b + 2) 2 * k := h81
           exact next _ _ _ _ _ Ffr.rf (none (fun z => h81 z.2)))
        | (refine next _ _ _ _ _ ⟨fun a k ha' => by simp only [upI]; rw [if_neg (by omega)], fun a ha' => by funext i; simp only [upF, ha', false_and, if_false]⟩ ?_
           have := fill (upF F' (b + 3) (I' b 0) (((a0 * 128 + a1) * 128 + k) * 2 ^ 7 + w) (b + 3)) (fun i hi => by simp only [upF, true_and]; rw [if_neg (by omega)]) (by simp only [upF, true_and, if_true]; omega)
           simp only [upI, true_and, if_true]
           exact this)
      · refine w_aload i1_addRows_84 rfl ?_
        refine w_get i1_addRows_85 hB.1 rfl ?_
        refine w_aload i1_addRows_88 rfl ?_
        refine w_getr i1_addRows_89 hB.1 rfl ?_
        refine w_alen i1_addRows_92 hB.2.2.2.1 (by omega) ?_
        obtain ⟨hr, fill⟩ := full ⟨by omega, by omega⟩
        refine w_icmpge i1_addRows_93 (fun h_ => absurd h_ (by omega)) (fun h93 => ?_)
        refine w_aload i1_addRows_96 rfl ?_
        refine w_getr i1_addRows_97 hB.1 rfl ?_
        refine w_aload i1_addRows_100 rfl ?_
        refine w_get i1_addRows_101 hB.1 rfl ?_
        refine w_iload i1_addRows_104 rfl ?_
        refine w_const i1_addRows_105 ?_
        refine w_ishl i1_addRows_107 ?_
        refine w_iload i1_addRows_108 rfl ?_
        refine w_ior i1_addRows_110 ?_
        rw [esh, esh2]
        refine w_const i1_addRows_111 ?_
        refine w_ishl i1_addRows_113 ?_
        refine w_iload i1_addRows_114 rfl ?_
        refine w_ior i1_addRows_116 ?_
        rw [esh3]
        refine w_iast i1_addRows_117 hB.2.2.2.1 (by omega) ?_
        refine w_aload i1_addRows_118 rfl ?_
        refine w_dup i1_addRows_119 ?_
        refine w_get i1_addRows_120 hB.1 rfl ?_
        refine w_const i1_addRows_123 ?_
        refine w_iadd i1_addRows_124 (by omega) ?_
        refine w_put i1_addRows_125 hB.1 rfl (Or.inl rfl) ?_
        refine w_ii5 i1_addRows_128 (by omega) ?_
        refine w_goto i1_addRows_131 ?_
        first
        | (have h67' : ¬ F (b + 1) 3 * w = l1 - F (b + 1) 2 * k := h67
           exact next _ _ _ _ _ Ffr.rf (none (fun z => h67 z.1)))
        | (have h81' : ¬ F (b + 2) 3 * w = l2 - F (b + 2) 2 * k := h81
           exact next _ _ _ _ _ Ffr.rf (none (fun z => h81 z.2)))
        | (refine next _ _ _ _ _ ⟨fun a k ha' => by simp only [upI]; rw [if_neg (by omega)], fun a ha' => by funext i; simp only [upF, ha', false_and, if_false]⟩ ?_
           have := fill (upF F' (b + 3) (I' b 0) (((a0 * 128 + a1) * 128 + k) * 2 ^ 7 + w) (b + 3)) (fun i hi => by simp only [upF, true_and]; rw [if_neg (by omega)]) (by simp only [upF, true_and, if_true]; omega)
           simp only [upI, true_and, if_true]
           exact this)
theorem s1_addRows {d : Nat} {I : IE} {F : FE} {b N : Nat} {s t a0 a1 l1 l2 : Int} (hB : FbAt b N) (hd : 3 ≤ d) (hC : Col F b) (ha : (0 ≤ a0 ∧ a0 ≤ 127) ∧ (0 ≤ a1 ∧ a1 ≤ 127)) (hz : ∀ i, 0 ≤ i ∧ i < 2 → F (b + 1) i = 0 → F (b + 2) i = 0 → (if i = 0 then a0 else a1) = 0)
    (e1 : F (b + 1) 0 * a0 + F (b + 1) 1 * a1 + l1 = s) (e2 : F (b + 2) 0 * a0 + F (b + 2) 1 * a1 + l2 = t) (hl1 : 0 ≤ l1 ∧ l1 ≤ 127) (hl2 : 0 ≤ l2 ∧ l2 ≤ 127) (hst : s ≤ 127 ∧ t ≤ 127)
    (hL : LInv (F (b + 1)) (F (b + 2)) s t ((a0 * 128 + a1) * 128) (I b 0) (F (b + 3))) (hcap : ∀ p m f, LInv (F (b + 1)) (F (b + 2)) s t p m f → m ≤ N) (hN : N ≤ 2048) :
    MU m1_addRows d shX [rv b, iv (a0 * 128 + a1), iv l1, iv l2] I F (fun I' F' => Ffr b I I' F F' ∧ LInv (F (b + 1)) (F (b + 2)) s t ((a0 * 128 + a1 + 1) * 128) (I' b 0) (F' (b + 3))) := by
  refine MS_of (ls := [lr b, li (a0 * 128 + a1), li l1, li l2, lu, lu, lu, lu, lu]) f1_addRows rfl rfl (Nat.le_of_ble_eq_true rfl) ?_
  refine w_aload i1_addRows_0 rfl ?_
  refine w_const i1_addRows_1 ?_
  refine w_iload i1_addRows_2 rfl ?_
  refine w_iload i1_addRows_3 rfl ?_
  refine w_cVP i1_addRows_4 f1_most v1_most (s1_most hB (by omega) (by decide) (by omega) (by omega) (hC.1 2 (by decide)) (hC.2.1 2 (by decide))) rfl hB.1 (by decide) rfl rfl (Nat.le_of_ble_eq_true rfl) (by omega) (fun v hv => ?_)
  have hv127 := hv.1
  refine w_is4 i1_addRows_7 ?_
  refine w_const i1_addRows_9 ?_
  refine w_is5 i1_addRows_10 ?_
  refine l1_addRows (I := I) (F := F) (s := s) (t := t) hB hd hC ha hz e1 e2 hl1 hl2 hst hcap hN hv (fun x x6 x7 x8 I' F' hf hL2 => ?_) (v + 1).toNat 0 _ _ _ I F (by omega) Ffr.rf ?_
  · refine w_vret i1_addRows_134 rfl ⟨Nat.le_refl _, Nat.le_refl _⟩ ?_
    refine ⟨rfl, rfl, hf, hL2.skip (by omega) (fun y hy g1 g2 => ?_)⟩
    have b0 := hy.1 0 (by decide); have b1 := hy.1 1 (by decide); have b2 := hy.1 2 (by decide); have b3 := hy.1 3 (by decide)
    unfold pre3 at g1 g2
    have c0 : y 0 = a0 := by omega
    have c1 : y 1 = a1 := by omega
    obtain ⟨-, q1, q2⟩ := hy
    rw [c0, c1] at q1 q2
    have n1 := Int.mul_nonneg (hC.1 3 (by decide)).1 b3.1
    have n2 := Int.mul_nonneg (hC.2.1 3 (by decide)).1 b3.1
    have := (hv.2 (y 2) b2.1).mpr ⟨by omega, by omega, b2.2.1, b2.2.2⟩
    omega
  · rw [show (a0 * 128 + a1) * 128 + ((0 : Nat) : Int) = (a0 * 128 + a1) * 128 by omega]
    exact hL
theorem l1_build1 {d n0 : Nat} {Q : PQ} {I : IE} {F : FE} {b N : Nat} {s t a0 l1 l2 v w : Int} {p : Nat} (hB : FbAt b N) (hd : 4 ≤ d) (hC : Col F b) (ha : 0 ≤ a0 ∧ a0 ≤ 127) (hz : F (b + 1) 0 = 0 → F (b + 2) 0 = 0 → a0 = 0)
    (e1 : F (b + 1) 0 * a0 + l1 = s) (e2 : F (b + 2) 0 * a0 + l2 = t) (hl1 : 0 ≤ l1 ∧ l1 ≤ 127) (hl2 : 0 ≤ l2 ∧ l2 ≤ 127) (hst : s ≤ 127 ∧ t ≤ 127) (hcap : ∀ p m f, LInv (F (b + 1)) (F (b + 2)) s t p m f → m ≤ N) (hN : N ≤ 2048) (hv : MostP (F (b + 1) 1) (F (b + 2) 1) l1 l2 v)
    (K : ∀ x I' F', Ffr b I I' F F' → LInv (F (b + 1)) (F (b + 2)) s t ((a0 * 128 + v + 1) * 128) (I' b 0) (F' (b + 3)) → WS m1_build d 0 0 n0 Q 0 0 135 [lr b, lr 1, lr p, li s, li t, li w, li a0, li l1, li l2, li v, x] [] shX I' F') :
    ∀ (m k : Nat) (I' : IE) (F' : FE), (k + m : Int) = v + 1 → Ffr b I I' F F' → LInv (F (b + 1)) (F (b + 2)) s t ((a0 * 128 + k) * 128) (I' b 0) (F' (b + 3)) → WS m1_build d 0 0 n0 Q 0 0 86 [lr b, lr 1, lr p, li s, li t, li w, li a0, li l1, li l2, li v, li k] [] shX I' F' := by
  have hv127 := hv.1
  intro m
  induction m with
  | zero =>
    intro k I' F' hk hf hL
    have ek : (k : Int) = v + 1 := by omega
    refine w_iload i1_build_86 rfl ?_
    refine w_iload i1_build_88 rfl ?_
    refine w_icmpgt i1_build_90 (fun h90 => ?_) (fun h_ => absurd h_ (by omega))
    refine K _ I' F' hf ?_
    rw [show (a0 * 128 + v + 1) * 128 = (a0 * 128 + k) * 128 by omega]
    exact hL
  | succ m ih =>
    intro k I' F' hk hf hL
    have f1 : F' (b + 1) = F (b + 1) := hf.2 _ (by omega)
    have f2 : F' (b + 2) = F (b + 2) := hf.2 _ (by omega)
    have hkv := (hv.2 k (by omega)).mp (by omega)
    have m1 := mul_le3 (hC.1 1 (by decide)) (y := (k : Int)) (B := 127) (by omega)
    have m2 := mul_le3 (hC.2.1 1 (by decide)) (y := (k : Int)) (B := 127) (by omega)
    have esh : borI (shlI a0 7) k = a0 * 2 ^ 7 + k := shor (k := 7) (by omega) (by decide) (by omega) (by omega)
    have esh2 : a0 * 2 ^ 7 + (k : Int) = a0 * 128 + k := by omega
    have hC' : Col F' b := by unfold Col; rw [f1, f2]; exact hC
    refine w_iload i1_build_86 rfl ?_
    refine w_iload i1_build_88 rfl ?_
    refine w_icmpgt i1_build_90 (fun h_ => absurd h_ (by omega)) (fun h90 => ?_)
    refine w_aload i1_build_93 rfl ?_
    refine w_iload i1_build_94 rfl ?_
    refine w_const i1_build_96 ?_
    refine w_ishl i1_build_98 ?_
    refine w_iload i1_build_99 rfl ?_
    refine w_ior i1_build_101 ?_
    rw [esh, esh2]
    refine w_iload i1_build_102 rfl ?_
    refine w_aload i1_build_104 rfl ?_
    refine w_getr i1_build_105 hB.1 rfl ?_
    refine w_const i1_build_108 ?_
    refine w_iald i1_build_109 hB.2.1 (by omega) ?_
    rw [f1]
    refine w_iload i1_build_110 rfl ?_
    refine w_imul i1_build_112 (by omega) ?_
    refine w_isub i1_build_113 (by omega) ?_
    refine w_iload i1_build_114 rfl ?_
    refine w_aload i1_build_116 rfl ?_
    refine w_getr i1_build_117 hB.1 rfl ?_
    refine w_const i1_build_120 ?_
    refine w_iald i1_build_121 hB.2.2.1 (by omega) ?_
    rw [f2]
    refine w_iload i1_build_122 rfl ?_
    refine w_imul i1_build_124 (by omega) ?_
    skip
    have hzk : ∀ i, 0 ≤ i ∧ i < 2 → F (b + 1) i = 0 → F (b + 2) i = 0 → (if i = 0 then a0 else (k : Int)) = 0 := fun i hi q1 q2 => by
      rcases (show i = 0 ∨ i = 1 by omega) with rfl | rfl
      · exact hz q1 q2
      · exact hkv.2.2.2 q1 q2
    refine w_isub i1_build_125 (by omega) ?_
    refine w_cVU i1_build_126 f1_addRows v1_addRows (s1_addRows (s := s) (t := t) (a0 := a0) (a1 := k) hB (by omega) hC' ⟨ha, by omega⟩ (by rw [f1, f2]; exact hzk) (by rw [f1]; omega) (by rw [f2]; omega) (by omega) (by omega) hst (by rw [f1, f2]; exact hL) (by rw [f1, f2]; exact hcap) hN) rfl hB.1 (by decide) rfl rfl (Nat.le_of_ble_eq_true rfl) (by omega) (fun I2 F2 hq => ?_)
    obtain ⟨g1, g2⟩ := hq
    rw [f1, f2] at g2
    refine w_ii10 i1_build_129 (by omega) ?_
    refine w_goto i1_build_132 ?_
    refine ih (k + 1) I2 F2 (by omega) (hf.tr g1) ?_
    rw [show (a0 * 128 + ((k + 1 : Nat) : Int)) * 128 = (a0 * 128 + k + 1) * 128 by omega]
    exact g2
theorem l1_build0 {d n0 : Nat} {Q : PQ} {I : IE} {F : FE} {b N : Nat} {s t w : Int} {p : Nat} (hB : FbAt b N) (hd : 4 ≤ d) (hC : Col F b) (hst : (0 ≤ s ∧ s ≤ 127) ∧ (0 ≤ t ∧ t ≤ 127)) (hcap : ∀ p m f, LInv (F (b + 1)) (F (b + 2)) s t p m f → m ≤ N) (hN : N ≤ 2048) (hw : MostP (F (b + 1) 0) (F (b + 2) 0) s t w)
    (K : ∀ x x7 x8 x9 x10 I' F', Ffr b I I' F F' → LInv (F (b + 1)) (F (b + 2)) s t ((w + 1) * 128 * 128) (I' b 0) (F' (b + 3)) → WS m1_build d 0 0 n0 Q 0 0 141 [lr b, lr 1, lr p, li s, li t, li w, x, x7, x8, x9, x10] [] shX I' F') :
    ∀ (m k : Nat) (x7 x8 x9 x10 : Option AV) (I' : IE) (F' : FE), (k + m : Int) = w + 1 → Ffr b I I' F F' → LInv (F (b + 1)) (F (b + 2)) s t ((k : Int) * 128 * 128) (I' b 0) (F' (b + 3)) → WS m1_build d 0 0 n0 Q 0 0 38 [lr b, lr 1, lr p, li s, li t, li w, li k, x7, x8, x9, x10] [] shX I' F' := by
  have hv127 := hw.1
  intro m
  induction m with
  | zero =>
    intro k x7 x8 x9 x10 I' F' hk hf hL
    have ek : (k : Int) = w + 1 := by omega
    refine w_iload i1_build_38 rfl ?_
    refine w_iload i1_build_40 rfl ?_
    refine w_icmpgt i1_build_42 (fun h42 => ?_) (fun h_ => absurd h_ (by omega))
    refine K _ _ _ _ _ I' F' hf ?_
    rw [← ek]
    exact hL
  | succ m ih =>
    intro k x7 x8 x9 x10 I' F' hk hf hL
    have f1 : F' (b + 1) = F (b + 1) := hf.2 _ (by omega)
    have f2 : F' (b + 2) = F (b + 2) := hf.2 _ (by omega)
    have hkv := (hw.2 k (by omega)).mp (by omega)
    have m1 := mul_le3 (hC.1 0 (by decide)) (y := (k : Int)) (B := 127) (by omega)
    have m2 := mul_le3 (hC.2.1 0 (by decide)) (y := (k : Int)) (B := 127) (by omega)
    refine w_iload i1_build_38 rfl ?_
    refine w_iload i1_build_40 rfl ?_
    refine w_icmpgt i1_build_42 (fun h_ => absurd h_ (by omega)) (fun h42 => ?_)
    refine w_iload i1_build_45 rfl ?_
    refine w_aload i1_build_46 rfl ?_
    refine w_getr i1_build_47 hB.1 rfl ?_
    refine w_const i1_build_50 ?_
    refine w_iald i1_build_51 hB.2.1 (by omega) ?_
    rw [f1]
    refine w_iload i1_build_52 rfl ?_
    refine w_imul i1_build_54 (by omega) ?_
    refine w_isub i1_build_55 (by omega) ?_
    refine w_is7 i1_build_56 ?_
    refine w_iload i1_build_58 rfl ?_
    refine w_aload i1_build_60 rfl ?_
    refine w_getr i1_build_61 hB.1 rfl ?_
    refine w_const i1_build_64 ?_
    refine w_iald i1_build_65 hB.2.2.1 (by omega) ?_
    rw [f2]
    refine w_iload i1_build_66 rfl ?_
    refine w_imul i1_build_68 (by omega) ?_
    refine w_isub i1_build_69 (by omega) ?_
    refine w_is8 i1_build_70 ?_
    refine w_aload i1_build_72 rfl ?_
    refine w_const i1_build_73 ?_
    refine w_iload i1_build_74 rfl ?_
    refine w_iload i1_build_76 rfl ?_
    refine w_cVP i1_build_78 f1_most v1_most (s1_most hB (by omega) (by decide) (by omega) (by omega) (by rw [f1]; exact hC.1 1 (by decide)) (by rw [f2]; exact hC.2.1 1 (by decide))) rfl hB.1 (by decide) rfl rfl (Nat.le_of_ble_eq_true rfl) (by omega) (fun v hv => ?_)
    rw [f1, f2] at hv
    have hvv := hv.1
    refine w_is9 i1_build_81 ?_
    refine w_const i1_build_83 ?_
    refine w_is10 i1_build_84 ?_
    refine l1_build1 (I := I) (F := F) (s := s) (t := t) (a0 := k) hB hd hC (by omega) hkv.2.2.2 (by omega) (by omega) (by omega) (by omega) (by omega) hcap hN hv (fun x I2 F2 hf2 hL2 => ?_) (v + 1).toNat 0 I' F' (by omega) hf ?_
    · refine w_ii6 i1_build_135 (by omega) ?_
      refine w_goto i1_build_138 ?_
      refine ih (k + 1) _ _ _ _ I2 F2 (by omega) hf2 ?_
      rw [show ((k + 1 : Nat) : Int) * 128 * 128 = ((k : Int) * 128 + 128) * 128 by omega]
      refine hL2.skip (by omega) (fun y hy g1 g2 => ?_)
      have b0 := hy.1 0 (by decide); have b1 := hy.1 1 (by decide); have b2 := hy.1 2 (by decide); have b3 := hy.1 3 (by decide)
      unfold pre3 at g1 g2
      have c0 : y 0 = k := by omega
      obtain ⟨-, q1, q2⟩ := hy
      rw [c0] at q1 q2
      have n1 := Int.mul_nonneg (hC.1 3 (by decide)).1 b3.1
      have n2 := Int.mul_nonneg (hC.2.1 3 (by decide)).1 b3.1
      have n3 := Int.mul_nonneg (hC.1 2 (by decide)).1 b2.1
      have n4 := Int.mul_nonneg (hC.2.1 2 (by decide)).1 b2.1
      have := (hv.2 (y 1) b1.1).mpr ⟨by omega, by omega, b1.2.1, b1.2.2⟩
      omega
    · rw [show ((k : Int) * 128 + ((0 : Nat) : Int)) * 128 = (k : Int) * 128 * 128 by omega]
      exact hL
/-- the columns, pushed to the right -/
def uu (M : Int → Int) (n : Int) : Int → Int := fun i => if 4 - n ≤ i then M (i - (4 - n)) else 0
def ul (M : Int → Int) (n : Int) : Int → Int := fun i => if 4 - n ≤ i then M (4 + (i - (4 - n))) else 0
theorem FS_ext {u u' l l' : Int → Int} {s t : Int} {y : Int → Int} (hu : ∀ i, 0 ≤ i ∧ i < 4 → u i = u' i) (hl : ∀ i, 0 ≤ i ∧ i < 4 → l i = l' i) (h : FS u l s t y) : FS u' l' s t y := by
  obtain ⟨h1, h2, h3⟩ := h
  refine ⟨fun i hi => by rw [← hu i hi, ← hl i hi]; exact h1 i hi, ?_, ?_⟩
  · rw [← hu 0 (by decide), ← hu 1 (by decide), ← hu 2 (by decide), ← hu 3 (by decide)]; exact h2
  · rw [← hl 0 (by decide), ← hl 1 (by decide), ← hl 2 (by decide), ← hl 3 (by decide)]; exact h3
theorem LInv_ext {u u' l l' : Int → Int} {s t p m : Int} {f : Int → Int} (hu : ∀ i, 0 ≤ i ∧ i < 4 → u i = u' i) (hl : ∀ i, 0 ≤ i ∧ i < 4 → l i = l' i) (h : LInv u l s t p m f) : LInv u' l' s t p m f := by
  refine ⟨h.1, h.2.1, fun x => ?_⟩
  rw [h.2.2 x]
  constructor
  · rintro ⟨y, h1, h2⟩; exact ⟨y, FS_ext hu hl h1, h2⟩
  · rintro ⟨y, h1, h2⟩; exact ⟨y, FS_ext (fun i hi => (hu i hi).symm) (fun i hi => (hl i hi).symm) h1, h2⟩
theorem s1_build {d : Nat} {I : IE} {F : FE} {b N p Np : Nat} (hB : FbAt b N) (hd : 4 ≤ d) (hn : 2 ≤ I 1 1 ∧ I 1 1 ≤ 4) (hM : ∀ j, 0 ≤ F 2 j ∧ F 2 j ≤ 3) (hpos : Pos (F 2) (I 1 1)) (hp : shX[p]? = some (.inl Np)) (hNp : 4 ≤ Np) (hpb : p ≠ b + 1 ∧ p ≠ b + 2 ∧ p ≠ b + 3) (hv : ∀ j, 0 ≤ j ∧ j < I 1 1 → -1000 ≤ F p j ∧ F p j ≤ 1000)
    (hs : 0 ≤ dt (F 2) (F p) 0 (I 1 1).toNat ∧ dt (F 2) (F p) 0 (I 1 1).toNat ≤ 127) (ht : 0 ≤ dt (F 2) (F p) 1 (I 1 1).toNat ∧ dt (F 2) (F p) 1 (I 1 1).toNat ≤ 127)
    (hcap : ∀ q m f, LInv (uu (F 2) (I 1 1)) (ul (F 2) (I 1 1)) (dt (F 2) (F p) 0 (I 1 1).toNat) (dt (F 2) (F p) 1 (I 1 1).toNat) q m f → m ≤ N) (hN : N ≤ 2048) :
    MU m1_build d shX [rv b, rv 1, rv p] I F (fun I' F' => (∀ a k, a ≠ b → I' a k = I a k) ∧ (∀ a, a ≠ b + 1 → a ≠ b + 2 → a ≠ b + 3 → F' a = F a) ∧ I' b 1 = I 1 1 ∧ LInv (uu (F 2) (I 1 1)) (ul (F 2) (I 1 1)) (dt (F 2) (F p) 0 (I 1 1).toNat) (dt (F 2) (F p) 1 (I 1 1).toNat) 2097152 (I' b 0) (F' (b + 3))) := by
  have hb := hB.2.2.2.2
  refine MS_of (ls := [lr b, lr 1, lr p, lu, lu, lu, lu, lu, lu, lu, lu]) f1_build rfl rfl (Nat.le_of_ble_eq_true rfl) ?_
  refine w_aload i1_build_0 rfl ?_
  refine w_aload i1_build_1 rfl ?_
  refine w_cVU i1_build_2 f1_takeColumns v1_takeColumns (s1_takeColumns hB (by omega) hn) rfl hB.1 (by decide) rfl rfl (Nat.le_of_ble_eq_true rfl) (by omega) (fun I1 F1 hq => ?_)
  obtain ⟨rfl, q1, q2, q3⟩ := hq
  have f2 : F1 2 = F 2 := q3 2 (by omega) (by omega)
  have fp : F1 p = F p := q3 p hpb.1 hpb.2.1
  have i11 : upI (upI I b 1 (I 1 1)) b 0 0 1 1 = I 1 1 := by simp only [upI]; rw [if_neg (by omega), if_neg (by omega)]
  refine w_aload i1_build_5 rfl ?_
  refine w_const i1_build_6 ?_
  refine w_put i1_build_7 hB.1 rfl (Or.inl rfl) ?_
  refine w_aload i1_build_10 rfl ?_
  refine w_const i1_build_11 ?_
  refine w_aload i1_build_12 rfl ?_
  refine w_cVR i1_build_13 f5_product v5_product (s5_product (N := Np) (by omega) (by omega) (by rw [i11]; omega) (by rw [f2]; exact hM) hp hNp (by rw [fp, i11]; exact hv)) rfl rfl (by decide) rfl rfl (Nat.le_of_ble_eq_true rfl) (by omega) ?_
  rw [i11, f2, fp]
  refine w_is3 i1_build_16 ?_
  refine w_aload i1_build_17 rfl ?_
  refine w_const i1_build_18 ?_
  refine w_aload i1_build_19 rfl ?_
  refine w_cVR i1_build_20 f5_product v5_product (s5_product (N := Np) (by omega) (by omega) (by rw [i11]; omega) (by rw [f2]; exact hM) hp hNp (by rw [fp, i11]; exact hv)) rfl rfl (by decide) rfl rfl (Nat.le_of_ble_eq_true rfl) (by omega) ?_
  rw [i11, f2, fp]
  generalize hS : dt (F 2) (F p) 0 (I 1 1).toNat = s at *
  generalize hT : dt (F 2) (F p) 1 (I 1 1).toNat = t at *
  have eu : ∀ i, 0 ≤ i ∧ i < 4 → F1 (b + 1) i = uu (F 2) (I 1 1) i := fun i hi => q1 i hi
  have el : ∀ i, 0 ≤ i ∧ i < 4 → F1 (b + 2) i = ul (F 2) (I 1 1) i := fun i hi => q2 i hi
  have hC : Col F1 b := by
    refine ⟨fun i hi => ?_, fun i hi => ?_, fun g => ?_⟩
    · rw [q1 i hi]; have := hM (i - (4 - I 1 1)); split <;> omega
    · rw [q2 i hi]; have := hM (4 + (i - (4 - I 1 1))); split <;> omega
    · rw [q1 3 (by decide), q2 3 (by decide), if_pos (by omega), if_pos (by omega)] at g
      exact hpos (3 - (4 - I 1 1)) (by omega) g
  have hcap1 : ∀ q m f, LInv (F1 (b + 1)) (F1 (b + 2)) s t q m f → m ≤ N := fun q m f h => hcap q m f (LInv_ext eu el h)
  refine w_is4 i1_build_23 ?_
  refine w_aload i1_build_25 rfl ?_
  refine w_const i1_build_26 ?_
  refine w_iload i1_build_27 rfl ?_
  refine w_iload i1_build_28 rfl ?_
  refine w_cVP i1_build_30 f1_most v1_most (s1_most hB (by omega) (by decide) (by omega) (by omega) (hC.1 0 (by decide)) (hC.2.1 0 (by decide))) rfl hB.1 (by decide) rfl rfl (Nat.le_of_ble_eq_true rfl) (by omega) (fun w hw => ?_)
  refine w_is5 i1_build_33 ?_
  refine w_const i1_build_35 ?_
  refine w_is6 i1_build_36 ?_
  refine l1_build0 (I := upI (upI I b 1 (I 1 1)) b 0 0) (F := F1) (s := s) (t := t) hB hd hC ⟨hs, ht⟩ hcap1 hN hw (fun x x7 x8 x9 x10 I2 F2 hf hL => ?_) (w + 1).toNat 0 _ _ _ _ _ _ (by have := hw.1; omega) Ffr.rf ?_
  · refine w_vret i1_build_141 rfl ⟨Nat.le_refl _, Nat.le_refl _⟩ ?_
    refine ⟨rfl, rfl, fun a k ha => ?_, fun a h1 h2 h3 => ?_, ?_, LInv_ext eu el (hL.skip (by have := hw.1; omega) (fun y hy g1 g2 => ?_))⟩
    · rw [hf.1 a k (Or.inl ha)]; simp only [upI]; rw [if_neg (fun z => ha z.1), if_neg (fun z => ha z.1)]
    · rw [hf.2 a h3, q3 a h1 h2]
    · rw [hf.1 b 1 (Or.inr (by decide))]; simp [upI]
    · have b0 := hy.1 0 (by decide); have b1 := hy.1 1 (by decide); have b2 := hy.1 2 (by decide); have b3 := hy.1 3 (by decide)
      unfold pre3 at g1 g2
      obtain ⟨-, k1, k2⟩ := hy
      have n1 := Int.mul_nonneg (hC.1 3 (by decide)).1 b3.1
      have n2 := Int.mul_nonneg (hC.2.1 3 (by decide)).1 b3.1
      have n3 := Int.mul_nonneg (hC.1 2 (by decide)).1 b2.1
      have n4 := Int.mul_nonneg (hC.2.1 2 (by decide)).1 b2.1
      have n5 := Int.mul_nonneg (hC.1 1 (by decide)).1 b1.1
      have n6 := Int.mul_nonneg (hC.2.1 1 (by decide)).1 b1.1
      have := (hw.2 (y 0) b0.1).mpr ⟨by omega, by omega, b0.2.1, b0.2.2⟩
      omega
  · have e0 : upI (upI I b 1 (I 1 1)) b 0 0 b 0 = 0 := by simp [upI]
    rw [e0]
    refine ⟨by decide, fun i j hij => absurd hij (by omega), fun x => ⟨fun ⟨i, h⟩ => absurd h (by omega), fun ⟨y, h1, h2, h3⟩ => ?_⟩⟩
    have b0 := h1.1 0 (by decide); have b1 := h1.1 1 (by decide); have b2 := h1.1 2 (by decide)
    unfold pre3 at h2
    omega
