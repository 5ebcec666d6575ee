theorem lr_lf46 {d n0 : Nat} {Q : PQ} {I : IE} {F : FE} {M : Int → Int} {n s t : Int} (hd : 2 ≤ d) (hM : NM M F) (hn1 : F 1 1 = n) (hn : 2 ≤ n ∧ n ≤ 4) (hpos : Pos M n) (hs : 0 ≤ s ∧ s ≤ 108) (ht : 0 ≤ t ∧ t ≤ 108) (hcap : CapR M n s t)
    (K : ∀ x y I' F', Yfr I I' F F' → LRI M n s t 0 (F' 11) (I' 0 14) (fr F') → WS m8_layFiber d 0 0 n0 Q 0 0 153 [lr 0, li n, li s, li t, li (-1), x, y] [] shM I' F') :
    ∀ (w k : Nat) (x y : Option AV) (I' : IE) (F' : FE), (k : Int) < n → Yok k (F' 11) → (dt M (F' 11) 0 k ≤ s ∧ dt M (F' 11) 1 k ≤ t) → LRI M n s t (k + 1) (F' 11) (I' 0 14) (fr F') → Yfr I I' F F' → mu (F' 11) k < w → WS m8_layFiber d 0 0 n0 Q 0 0 46 [lr 0, li n, li s, li t, li k, x, y] [] shM I' F' := by
  intro w
  induction w with
  | zero =>
    intro k x y I' F' hk hY _ _ _ hmu
    have := mu_0 (Y := F' 11) k (fun j hj => by
      by_cases c : j = k
      · rw [c]; have := hY.2; omega
      · have := hY.1 j (by omega); omega)
    omega
  | succ w ih =>
    intro k x y I' F' hk hY hdt hL hf hmu
    have hM' : ∀ F1 : FE, F1 1 = F' 1 → NM M F1 := fun F1 e => ⟨fun j hj => by rw [e, hf.2 1 (by decide) (by decide)]; exact hM.1 j hj, hM.2⟩
    have Yk := hY.2
    obtain ⟨Y, eY⟩ : ∃ Y, Y = F' 11 := ⟨_, rfl⟩
    obtain ⟨F1, eF1⟩ : ∃ F1, F1 = upF F' 11 (k : Int) (F' 11 k + 1) := ⟨_, rfl⟩
    have e1 : F1 1 = F' 1 := by rw [eF1]; funext j; simp [upF]
    have ne11 : ∀ a, a ≠ 11 → F1 a = F' a := fun a ha => by rw [eF1]; funext j; simp only [upF, ha, false_and, if_false]
    have ea : ∀ j : Int, 0 ≤ j ∧ j < k → F1 11 j = Y j := fun j hj => by rw [eF1, eY]; simp only [upF, true_and]; rw [if_neg (by omega)]
    have eb : F1 11 k = Y k + 1 := by rw [eF1, eY]; simp [upF]
    have hk4 : k + 1 ≤ 4 := by omega
    have b11 : ∀ j : Int, 0 ≤ j ∧ j < ((k + 1 : Nat) : Int) → F1 11 (0 + j) = F1 11 j ∧ -1000 ≤ F1 11 j ∧ F1 11 j ≤ 1000 := fun j hj => by
      refine ⟨by rw [Int.zero_add], ?_⟩
      by_cases c : j = k
      · rw [c, eb, eY]; omega
      · rw [ea j (by omega), eY]; have := hY.1 j (by omega); omega
    have hp : ∀ r, 0 ≤ r ∧ r ≤ 1 → MR m8_product (d - 1) shM [rv 0, iv r, rv 11, iv 0, iv ((k + 1 : Nat) : Int)] I' F1 (dt M (F1 11) r (k + 1)) := fun r hr => r_product (N := 4) (by omega) (hM' F1 e1) hr hk4 (by decide) rfl (by omega) b11
    rw [← eY] at hY hdt hL hmu Yk
    have dk : ∀ r, dt M (F1 11) r (k + 1) = dt M Y r k + M (r * 4 + k) * (Y k + 1) := fun r => by
      show dt M (F1 11) r k + M (r * 4 + k) * F1 11 k = _
      rw [dt_ext k ea, eb]
    have dn : ∀ r, 0 ≤ dt M Y r k := fun r => by
      have := dt_mono (r := r) hM.2 k 0 (z := Y) (fun j hj => (hY.1 j (by omega)).1)
      rw [show 0 + k = k by omega] at this
      exact this
    have ek : (k : Int) + 1 = ((k + 1 : Nat) : Int) := by omega
    have frn : fr F1 = fr F' := by funext i j; unfold fr; rw [ne11 9 (by decide)]
    have m0 := hM.2 ((0 : Int) * 4 + k)
    have m1 := hM.2 ((1 : Int) * 4 + k)
    have Ak := dk 0
    have Bk := dk 1
    have n0' := dn 0
    have n1' := dn 1
    have nn0 := Int.mul_nonneg m0.1 (show 0 ≤ Y k + 1 by omega)
    have nn1 := Int.mul_nonneg m1.1 (show 0 ≤ Y k + 1 by omega)
    have mu0 := mulb m0 (B := 200) (b := Y k + 1) (by omega)
    have mu1 := mulb m1 (B := 200) (b := Y k + 1) (by omega)
    have fY1 : Yfr I I' F F1 := ⟨hf.1, fun a h9 h11 => by rw [ne11 a h11, hf.2 a h9 h11]⟩
    -- what does not go beyond
    have small : dt M (F1 11) 0 (k + 1) ≤ s → dt M (F1 11) 1 (k + 1) ≤ t → Y k + 1 ≤ 108 := fun h0 h1 => by
      have hz := hpos k (by omega)
      by_cases c : 1 ≤ M ((0 : Int) * 4 + k)
      · have := le_mul1 c (show 0 ≤ Y k + 1 by omega); omega
      · have c2 : 1 ≤ M ((1 : Int) * 4 + k) := by
          apply Classical.byContradiction
          intro c2
          refine hz ⟨?_, ?_⟩
          · rw [show (k : Int) = 0 * 4 + k by omega]; omega
          · rw [show 4 + (k : Int) = 1 * 4 + k by omega]; omega
        have := le_mul1 c2 (show 0 ≤ Y k + 1 by omega); omega
    have pop : (s < dt M (F1 11) 0 (k + 1) ∨ t < dt M (F1 11) 1 (k + 1)) → ∀ x y : Option AV, WS m8_layFiber d 0 0 n0 Q 0 0 106 [lr 0, li n, li s, li t, li k, x, y] [] shM I' F1 := fun hx x y => by
      have hL2 := LRI.pop (Y' := F1 11) hM.2 hk hY ea eb hx hL
      refine w_ii4 i8_layFiber_106 (by omega) ?_
      refine w_goto i8_layFiber_109 ?_
      refine w_goto i8_layFiber_150 ?_
      by_cases k0 : k = 0
      · subst k0
        refine w_iload i8_layFiber_46 rfl ?_
        refine w_iflt i8_layFiber_48 (fun _ => ?_) (fun h => absurd h (by decide))
        exact K x y I' F1 fY1 (by rw [frn]; exact hL2)
      · obtain ⟨q, rfl⟩ : ∃ q, k = q + 1 := ⟨k - 1, by omega⟩
        rw [show ((q + 1 : Nat) : Int) + -1 = (q : Int) by omega]
        have dq : ∀ r, dt M (F1 11) r q ≤ dt M Y r (q + 1) := fun r => by
          rw [dt_ext q (fun j hj => ea j (by omega))]
          exact dt_mono hM.2 1 q (fun j hj => (hY.1 j (by omega)).1)
        have d0 := dq 0; have d1 := dq 1
        refine ih q x y I' F1 (by omega) ⟨fun j hj => by rw [ea j (by omega)]; exact hY.1 j (by omega), ?_, ?_⟩ ⟨by omega, by omega⟩ (by rw [frn]; exact hL2) fY1 ?_
        · rw [ea q (by omega)]; have := hY.1 q (by omega); omega
        · rw [ea q (by omega)]; have := hY.1 q (by omega); omega
        · have p := P7_pos (q + 1)
          have e : mu (F1 11) q = mu Y q := mu_ext q (fun j hj => ea j (by omega))
          have e2 : mu Y (q + 1) = mu Y q + (110 - Y ((q + 1 : Nat) : Int)) * P7 (q + 1) := rfl
          have := Int.mul_nonneg (show 0 ≤ 110 - Y ((q + 1 : Nat) : Int) - 1 by omega) (Int.le_of_lt p)
          rw [Int.sub_mul] at this
          omega
    have e11 : upF F' 11 (k : Int) (F' 11 k + 1) = F1 := eF1.symm
    by_cases kn : (k : Int) + 1 < n
    · refine w_iload i8_layFiber_46 rfl ?_
      refine w_iflt i8_layFiber_48 (fun h_ => absurd h_ (by omega)) (fun h48 => ?_)
      refine w_aload i8_layFiber_51 rfl ?_
      refine w_getr i8_layFiber_52 rfl rfl ?_
      refine w_iload i8_layFiber_55 rfl ?_
      refine w_dup2 i8_layFiber_57 ?_
      refine w_iald i8_layFiber_58 rfl (by omega) ?_
      refine w_const i8_layFiber_59 ?_
      refine w_iadd i8_layFiber_60 ((by rw [← eY]; constructor <;> omega)) ?_
      refine w_iast i8_layFiber_61 rfl (by omega) ?_
      rw [e11]
      refine w_aload i8_layFiber_62 rfl ?_
      refine w_const i8_layFiber_63 ?_
      refine w_aload i8_layFiber_64 rfl ?_
      refine w_getr i8_layFiber_65 rfl rfl ?_
      refine w_const i8_layFiber_68 ?_
      refine w_iload i8_layFiber_69 rfl ?_
      refine w_const i8_layFiber_71 ?_
      refine w_iadd i8_layFiber_72 (by omega) ?_
      rw [ek]
      refine w_cVR i8_layFiber_73 f8_product v8_product (hp _ (by omega)) rfl rfl (by decide) rfl rfl (Nat.le_of_ble_eq_true rfl) (by omega) ?_
      refine w_is5 i8_layFiber_76 ?_
      refine w_aload i8_layFiber_78 rfl ?_
      refine w_const i8_layFiber_79 ?_
      refine w_aload i8_layFiber_80 rfl ?_
      refine w_getr i8_layFiber_81 rfl rfl ?_
      refine w_const i8_layFiber_84 ?_
      refine w_iload i8_layFiber_85 rfl ?_
      refine w_const i8_layFiber_87 ?_
      refine w_iadd i8_layFiber_88 (by omega) ?_
      rw [ek]
      refine w_cVR i8_layFiber_89 f8_product v8_product (hp _ (by omega)) rfl rfl (by decide) rfl rfl (Nat.le_of_ble_eq_true rfl) (by omega) ?_
      refine w_is6 i8_layFiber_92 ?_
      refine w_iload i8_layFiber_94 rfl ?_
      refine w_iload i8_layFiber_96 rfl ?_
      refine w_icmpgt i8_layFiber_97 (fun h97 => ?_) (fun h97 => ?_)
      · first
        | exact pop (Or.inl (by assumption)) _ _
        | exact pop (Or.inr (by assumption)) _ _
      · refine w_iload i8_layFiber_100 rfl ?_
        refine w_iload i8_layFiber_102 rfl ?_
        refine w_icmple i8_layFiber_103 (fun h103 => ?_) (fun h103 => ?_)
        · refine w_iload i8_layFiber_112 rfl ?_
          refine w_iload i8_layFiber_114 rfl ?_
          refine w_const i8_layFiber_115 ?_
          refine w_isub i8_layFiber_116 (by omega) ?_
          refine w_icmpge i8_layFiber_117 (fun h_ => absurd h_ (by omega)) (fun h117 => ?_)
          refine w_ii4 i8_layFiber_120 (by omega) ?_
          refine w_aload i8_layFiber_123 rfl ?_
          refine w_getr i8_layFiber_124 rfl rfl ?_
          refine w_iload i8_layFiber_127 rfl ?_
          refine w_const i8_layFiber_129 ?_
          refine w_iast i8_layFiber_130 rfl (by omega) ?_
          have h1 : dt M (F1 11) 0 (k + 1) ≤ s := by assumption
          have h2 : dt M (F1 11) 1 (k + 1) ≤ t := by assumption
          refine w_goto i8_layFiber_131 ?_
          refine w_goto i8_layFiber_150 ?_
          rw [ek]
          have sm := small h1 h2
          obtain ⟨F2, eF2⟩ : ∃ F2, F2 = upF F1 11 ((k + 1 : Nat) : Int) (-1) := ⟨_, rfl⟩
          rw [← eF2]
          have ec : ∀ j : Int, j ≠ ((k + 1 : Nat) : Int) → F2 11 j = F1 11 j := fun j hj => by rw [eF2]; simp only [upF, true_and, hj, if_false]
          have ed : F2 11 ((k + 1 : Nat) : Int) = -1 := by rw [eF2]; simp [upF]
          have n2 : ∀ a, a ≠ 11 → F2 a = F1 a := fun a ha => by rw [eF2]; funext j; simp only [upF, ha, false_and, if_false]
          have fe : fr F2 = fr F' := by rw [← frn]; funext i j; unfold fr; rw [n2 9 (by decide)]
          have ea2 : ∀ j : Int, 0 ≤ j ∧ j < k → F2 11 j = Y j := fun j hj => by rw [ec j (by omega)]; exact ea j hj
          have eb2 : F2 11 k = Y k + 1 := by rw [ec k (by omega)]; exact eb
          have dd : ∀ r, dt M (F2 11) r (k + 1) = dt M (F1 11) r (k + 1) := fun r => dt_ext _ (fun j hj => ec j (by omega))
          refine ih (k + 1) _ _ I' F2 (by omega) ⟨fun j hj => ?_, by rw [ed]; decide, by rw [ed]; decide⟩ ⟨by rw [dd]; exact h1, by rw [dd]; exact h2⟩ (by rw [fe]; exact LRI.push (Y' := F2 11) (by omega) ea2 eb2 ed hL) ⟨hf.1, fun a h9 h11 => by rw [n2 a h11]; exact fY1.2 a h9 h11⟩ ?_
          · by_cases c : j = k
            · rw [c, eb2]; omega
            · rw [ea2 j (by omega)]; exact hY.1 j (by omega)
          · have := mu_push (Y := Y) (Y' := F2 11) (k := k) (by omega) ea2 eb2 ed
            omega
        · first
          | exact pop (Or.inl (by assumption)) _ _
          | exact pop (Or.inr (by assumption)) _ _
    · have kn1 : (k : Int) + 1 = n := by omega
      have fin : ∀ (x y : Option AV) (I2 : IE) (F2 : FE), (∀ a j, (a ≠ 0 ∨ j ≠ 14) → I2 a j = I' a j) → F2 11 = F1 11 → (∀ a, a ≠ 9 → F2 a = F1 a) → dt M (F1 11) 0 (k + 1) ≤ s → dt M (F1 11) 1 (k + 1) ≤ t → LRI M n s t (k + 1) (F1 11) (I2 0 14) (fr F2) → WS m8_layFiber d 0 0 n0 Q 0 0 150 [lr 0, li n, li s, li t, li k, x, y] [] shM I2 F2 := fun x y I2 F2 hI e hF h1 h2 hL2 => by
        have sm := small h1 h2
        refine w_goto i8_layFiber_150 ?_
        refine ih k x y I2 F2 hk (by rw [e]; exact ⟨fun j hj => by rw [ea j hj]; exact hY.1 j hj, by rw [eb]; omega, by rw [eb]; omega⟩) (by rw [e, dt_ext (w := Y) k ea, dt_ext (w := Y) k ea]; exact hdt) (by rw [e]; exact hL2) ⟨fun a j h => by rw [hI a j h]; exact hf.1 a j h, fun a h9 h11 => by rw [hF a h9]; exact fY1.2 a h9 h11⟩ ?_
        have := mu_inc (Y := Y) (Y' := F1 11) (k := k) ea eb
        rw [e]
        omega
      have cp := hL.cap hn hpos hcap
      have c0 := hL.1.1
      have en1 : F1 1 1 = n := by rw [e1, hf.2 1 (by decide) (by decide)]; exact hn1
      refine w_iload i8_layFiber_46 rfl ?_
      refine w_iflt i8_layFiber_48 (fun h_ => absurd h_ (by omega)) (fun h48 => ?_)
      refine w_aload i8_layFiber_51 rfl ?_
      refine w_getr i8_layFiber_52 rfl rfl ?_
      refine w_iload i8_layFiber_55 rfl ?_
      refine w_dup2 i8_layFiber_57 ?_
      refine w_iald i8_layFiber_58 rfl (by omega) ?_
      refine w_const i8_layFiber_59 ?_
      refine w_iadd i8_layFiber_60 ((by rw [← eY]; constructor <;> omega)) ?_
      refine w_iast i8_layFiber_61 rfl (by omega) ?_
      rw [e11]
      refine w_aload i8_layFiber_62 rfl ?_
      refine w_const i8_layFiber_63 ?_
      refine w_aload i8_layFiber_64 rfl ?_
      refine w_getr i8_layFiber_65 rfl rfl ?_
      refine w_const i8_layFiber_68 ?_
      refine w_iload i8_layFiber_69 rfl ?_
      refine w_const i8_layFiber_71 ?_
      refine w_iadd i8_layFiber_72 (by omega) ?_
      rw [ek]
      refine w_cVR i8_layFiber_73 f8_product v8_product (hp _ (by omega)) rfl rfl (by decide) rfl rfl (Nat.le_of_ble_eq_true rfl) (by omega) ?_
      refine w_is5 i8_layFiber_76 ?_
      refine w_aload i8_layFiber_78 rfl ?_
      refine w_const i8_layFiber_79 ?_
      refine w_aload i8_layFiber_80 rfl ?_
      refine w_getr i8_layFiber_81 rfl rfl ?_
      refine w_const i8_layFiber_84 ?_
      refine w_iload i8_layFiber_85 rfl ?_
      refine w_const i8_layFiber_87 ?_
      refine w_iadd i8_layFiber_88 (by omega) ?_
      rw [ek]
      refine w_cVR i8_layFiber_89 f8_product v8_product (hp _ (by omega)) rfl rfl (by decide) rfl rfl (Nat.le_of_ble_eq_true rfl) (by omega) ?_
      refine w_is6 i8_layFiber_92 ?_
      refine w_iload i8_layFiber_94 rfl ?_
      refine w_iload i8_layFiber_96 rfl ?_
      refine w_icmpgt i8_layFiber_97 (fun h97 => ?_) (fun h97 => ?_)
      · first
        | exact pop (Or.inl (by assumption)) _ _
        | exact pop (Or.inr (by assumption)) _ _
      · refine w_iload i8_layFiber_100 rfl ?_
        refine w_iload i8_layFiber_102 rfl ?_
        refine w_icmple i8_layFiber_103 (fun h103 => ?_) (fun h103 => ?_)
        · refine w_iload i8_layFiber_112 rfl ?_
          refine w_iload i8_layFiber_114 rfl ?_
          refine w_const i8_layFiber_115 ?_
          refine w_isub i8_layFiber_116 (by omega) ?_
          refine w_icmpge i8_layFiber_117 (fun h117 => ?_) (fun h_ => absurd h_ (by omega))
          refine w_iload i8_layFiber_134 rfl ?_
          refine w_iload i8_layFiber_136 rfl ?_
          refine w_icmpne i8_layFiber_137 (fun h137 => ?_) (fun h137 => ?_)
          · first
            | (have h2 : ¬ dt M (F1 11) 1 (k + 1) = t := by assumption
               exact fin _ _ I' F1 (fun _ _ _ => rfl) rfl (fun _ _ => rfl) (by assumption) (by assumption) (by rw [frn]; exact LRI.stay (Y' := F1 11) kn1 hY ea eb (fun g => h2 g.2) hL))
            | (have h2 : ¬ dt M (F1 11) 0 (k + 1) = s := by assumption
               exact fin _ _ I' F1 (fun _ _ _ => rfl) rfl (fun _ _ => rfl) (by assumption) (by assumption) (by rw [frn]; exact LRI.stay (Y' := F1 11) kn1 hY ea eb (fun g => h2 g.1) hL))
          · refine w_iload i8_layFiber_140 rfl ?_
            refine w_iload i8_layFiber_142 rfl ?_
            refine w_icmpne i8_layFiber_143 (fun h143 => ?_) (fun h143 => ?_)
            · first
              | (have h2 : ¬ dt M (F1 11) 1 (k + 1) = t := by assumption
                 exact fin _ _ I' F1 (fun _ _ _ => rfl) rfl (fun _ _ => rfl) (by assumption) (by assumption) (by rw [frn]; exact LRI.stay (Y' := F1 11) kn1 hY ea eb (fun g => h2 g.2) hL))
              | (have h2 : ¬ dt M (F1 11) 0 (k + 1) = s := by assumption
                 exact fin _ _ I' F1 (fun _ _ _ => rfl) rfl (fun _ _ => rfl) (by assumption) (by assumption) (by rw [frn]; exact LRI.stay (Y' := F1 11) kn1 hY ea eb (fun g => h2 g.1) hL))
            · refine w_aload i8_layFiber_146 rfl ?_
              refine w_cVU i8_layFiber_147 f8_addFiber v8_addFiber (r_addFiber en1 (by omega) (by omega)) rfl rfl (by decide) rfl rfl (Nat.le_of_ble_eq_true rfl) (by omega) (fun I2 F2 hq => ?_)
              obtain ⟨eI, q1, q2, q3⟩ := hq
              have h1 : dt M (F1 11) 0 (k + 1) = s := by assumption
              have h2 : dt M (F1 11) 1 (k + 1) = t := by assumption
              have i14 : I2 0 14 = I' 0 14 + 1 := by rw [eI]; simp [upI]
              refine fin _ _ I2 F2 (fun a j h => by rw [eI]; simp only [upI]; rw [if_neg (by omega)]) (q3 11 (by decide)) q3 (by omega) (by omega) ?_
              rw [i14]
              refine LRI.add (Y' := F1 11) hn kn1 hY ea eb h1 h2 hL (fun i hi j hj => ?_) (fun j hj => ?_)
              · show F2 9 (4 * i + j) = F' 9 (4 * i + j)
                rw [q2 _ (by omega), ne11 9 (by decide)]
              · exact q1 j hj
        · first
          | exact pop (Or.inl (by assumption)) _ _
          | exact pop (Or.inr (by assumption)) _ _
/-- a fiber stands in the reference -/
def FibR (M : Int → Int) (n : Int) (y : Int → Int) (I : IE) (F : FE) : Prop := I 0 14 = fbm M n y ∧ (0 ≤ fbm M n y ∧ fbm M n y ≤ 2048) ∧ (∀ i, 0 ≤ i ∧ i < fbm M n y → ∀ j, 0 ≤ j ∧ j < 4 → fr F i j = fy M n y i j) ∧ FibP M n y (fbm M n y, fbf M n y)
theorem r_layFiber {d : Nat} {I : IE} {F : FE} {M y : Int → Int} {n : Int} (hd : 3 ≤ d) (hM : NM M F) (hn1 : F 1 1 = n) (hn : 2 ≤ n ∧ n ≤ 4) (hpos : Pos M n) (hg : ∀ j, 0 ≤ j ∧ j < n → F 10 j = y j ∧ 0 ≤ y j ∧ y j ≤ 9) (hcap : CapR M n (dt M y 0 n.toNat) (dt M y 1 n.toNat)) : MU m8_layFiber d shM [rv 0] I F (fun I' F' => Yfr I I' F F' ∧ FibR M n y I' F') := by
  have d0 := dt_nn (v := y) (r := 0) hM.2 n.toNat (fun j hj => (hg j (by omega)).2)
  have d1 := dt_nn (v := y) (r := 1) hM.2 n.toNat (fun j hj => (hg j (by omega)).2)
  have en : n = (n.toNat : Int) := by omega
  have hp : ∀ r, 0 ≤ r ∧ r ≤ 1 → MR m8_product (d - 1) shM [rv 0, iv r, rv 10, iv 0, iv n] I F (dt M y r n.toNat) := fun r hr => by
    have := r_product (d := d - 1) (I := I) (F := F) (M := M) (v := y) (r := r) (o := 0) (p := 10) (N := 4) (n := n.toNat) (by omega) hM hr (by omega) (by decide) rfl (by omega) (fun j hj => by have := hg j (by omega); exact ⟨by rw [Int.zero_add]; exact this.1, by omega⟩)
    rw [← en] at this
    exact this
  obtain ⟨s, hs⟩ : ∃ s, s = dt M y 0 n.toNat := ⟨_, rfl⟩
  obtain ⟨t, ht⟩ : ∃ t, t = dt M y 1 n.toNat := ⟨_, rfl⟩
  refine MS_of (ls := [lr 0, lu, lu, lu, lu, lu, lu]) f8_layFiber rfl rfl (Nat.le_of_ble_eq_true rfl) ?_
  refine w_aload i8_layFiber_0 rfl ?_
  refine w_getr i8_layFiber_1 rfl rfl ?_
  refine w_const i8_layFiber_4 ?_
  refine w_iald i8_layFiber_5 rfl (by omega) ?_
  rw [hn1]
  refine w_is1 i8_layFiber_6 ?_
  refine w_aload i8_layFiber_7 rfl ?_
  refine w_const i8_layFiber_8 ?_
  refine w_aload i8_layFiber_9 rfl ?_
  refine w_getr i8_layFiber_10 rfl rfl ?_
  refine w_const i8_layFiber_13 ?_
  refine w_iload i8_layFiber_14 rfl ?_
  refine w_cVR i8_layFiber_15 f8_product v8_product (hp 0 (by decide)) rfl rfl (by decide) rfl rfl (Nat.le_of_ble_eq_true rfl) (by omega) ?_
  rw [← hs]
  refine w_is2 i8_layFiber_18 ?_
  refine w_aload i8_layFiber_19 rfl ?_
  refine w_const i8_layFiber_20 ?_
  refine w_aload i8_layFiber_21 rfl ?_
  refine w_getr i8_layFiber_22 rfl rfl ?_
  refine w_const i8_layFiber_25 ?_
  refine w_iload i8_layFiber_26 rfl ?_
  refine w_cVR i8_layFiber_27 f8_product v8_product (hp 1 (by decide)) rfl rfl (by decide) rfl rfl (Nat.le_of_ble_eq_true rfl) (by omega) ?_
  rw [← ht]
  refine w_is3 i8_layFiber_30 ?_
  refine w_const i8_layFiber_31 ?_
  refine w_is4 i8_layFiber_32 ?_
  refine w_aload i8_layFiber_34 rfl ?_
  refine w_const i8_layFiber_35 ?_
  refine w_put i8_layFiber_36 rfl rfl (Or.inl rfl) ?_
  refine w_aload i8_layFiber_39 rfl ?_
  refine w_getr i8_layFiber_40 rfl rfl ?_
  refine w_const i8_layFiber_43 ?_
  refine w_const i8_layFiber_44 ?_
  refine w_iast i8_layFiber_45 rfl (by omega) ?_
  refine lr_lf46 (I := I) (F := F) (M := M) (by omega) hM hn1 hn hpos (by omega) (by omega) (by rw [hs, ht]; exact hcap) (fun x y' I' F' hf hL => ?_) 1000000000 0 _ _ _ _ (by omega) ⟨fun j hj => absurd hj (by omega), by simp [upF], by simp [upF]⟩ ?_ ?_ ⟨fun a k h => by simp only [upI]; rw [if_neg (by omega)], fun a h9 h11 => by funext j; simp only [upF, h11, false_and, if_false]⟩ ?_
  · rw [hs, ht] at hL
    obtain ⟨f1, f2, f3⟩ := hL.fin hn hpos
    have cp := hL.cap hn hpos hcap
    have c0 := hL.1.1
    refine w_vret i8_layFiber_153 rfl ⟨Nat.le_refl _, Nat.le_refl _⟩ ⟨rfl, rfl, hf, f1, ⟨by omega, by omega⟩, fun i hi j hj => f2 i (by omega) j hj, f3⟩
  · show (0 : Int) ≤ s ∧ (0 : Int) ≤ t
    omega
  · have u14 : upI I 0 14 0 0 14 = 0 := by simp [upI]
    rw [u14]
    refine ⟨⟨Int.le_refl _, fun i hi => absurd hi (by omega)⟩, fun i j hij => absurd hij (by omega), fun z hz => ⟨fun g => ?_, fun ⟨i, i0, i1, _⟩ => absurd i0 (by omega)⟩⟩
    have z0 := hz.1 0 (by omega)
    have g' : 0 * 128 + z 0 ≤ 0 * 128 + upF F 11 0 (-1) 11 0 := g
    have u0 : upF F 11 0 (-1) 11 0 = -1 := by simp [upF]
    rw [u0] at g'
    omega
  · show (110 - upF F 11 0 (-1) 11 0) * P7 0 < 1000000000
    have u0 : upF F 11 0 (-1) 11 0 = -1 := by simp [upF]
    rw [u0]
    decide
