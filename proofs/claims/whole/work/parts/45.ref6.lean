theorem lr_lk171 {d n0 : Nat} {Q : PQ} {I : IE} {F : FE} {b n w T : Int} {x y : Option AV} (hn : 2 ≤ n ∧ n ≤ 4)
    (K : ∀ F', (∀ j, 0 ≤ j ∧ j < 4 → F' 6 j = elast n j) → (∀ a, a ≠ 6 → F' a = F a) → WS m8_layKernel d 0 0 n0 Q 0 0 203 [lr 0, li b, li n, li w, li T, li 4, x, y] [] shM I F') :
    ∀ (m k : Nat) (F' : FE), k + m = 4 → (∀ j, 0 ≤ j ∧ j < (k : Int) → F' 6 j = elast n j) → (∀ a, a ≠ 6 → F' a = F a) → WS m8_layKernel d 0 0 n0 Q 0 0 171 [lr 0, li b, li n, li w, li T, li k, x, y] [] shM I F' := by
  intro m
  induction m with
  | zero =>
    intro k F' hk h1 h2
    obtain rfl : k = 4 := by omega
    refine w_iload i8_layKernel_171 rfl ?_
    refine w_const i8_layKernel_173 ?_
    refine w_icmpge i8_layKernel_174 (fun h174 => ?_) (fun h_ => absurd h_ (by omega))
    exact K F' h1 h2
  | succ m ih =>
    intro k F' hk h1 h2
    have step : ∀ v, v = elast n k → ∀ F1, F1 = upF F' 6 (k : Int) v → (∀ j, 0 ≤ j ∧ j < ((k + 1 : Nat) : Int) → F1 6 j = elast n j) ∧ ∀ a, a ≠ 6 → F1 a = F a := fun v hv F1 e => by
      subst e
      refine ⟨fun j hj => ?_, fun a ha => ?_⟩
      · simp only [upF, true_and]
        by_cases c : j = k
        · rw [if_pos c, c]; exact hv
        · rw [if_neg c]; exact h1 j (by omega)
      · funext j
        simp only [upF, ha, false_and, if_false]
        rw [h2 a ha]
    refine w_iload i8_layKernel_171 rfl ?_
    refine w_const i8_layKernel_173 ?_
    refine w_icmpge i8_layKernel_174 (fun h_ => absurd h_ (by omega)) (fun h174 => ?_)
    refine w_aload i8_layKernel_177 rfl ?_
    refine w_getr i8_layKernel_178 rfl rfl ?_
    refine w_iload i8_layKernel_181 rfl ?_
    refine w_iload i8_layKernel_183 rfl ?_
    refine w_iload i8_layKernel_185 rfl ?_
    refine w_const i8_layKernel_186 ?_
    refine w_isub i8_layKernel_187 (by omega) ?_
    refine w_icmpne i8_layKernel_188 (fun h188 => ?_) (fun h188 => ?_)
    · refine w_const i8_layKernel_195 ?_
      refine w_iast i8_layKernel_196 rfl (by omega) ?_
      refine w_ii5 i8_layKernel_197 (by omega) ?_
      refine w_goto i8_layKernel_200 ?_
      obtain ⟨s1, s2⟩ := step _ (by unfold elast; first | rw [if_pos (by omega)] | rw [if_neg (by omega)]) _ rfl
      exact ih (k + 1) _ (by omega) s1 s2
    · refine w_const i8_layKernel_191 ?_
      refine w_goto i8_layKernel_192 ?_
      refine w_iast i8_layKernel_196 rfl (by omega) ?_
      refine w_ii5 i8_layKernel_197 (by omega) ?_
      refine w_goto i8_layKernel_200 ?_
      obtain ⟨s1, s2⟩ := step _ (by unfold elast; first | rw [if_pos (by omega)] | rw [if_neg (by omega)]) _ rfl
      exact ih (k + 1) _ (by omega) s1 s2
theorem r_layKernel {d : Nat} {I : IE} {F : FE} {M : Int → Int} {r b n : Int} (hd : 4 ≤ d) (hM : NM M F) (hn1 : F 1 1 = n) (hn : 2 ≤ n ∧ n ≤ 4) (hP : PVq M n r b) : MU m8_layKernel d shM [rv 0, iv b] I F (fun I' F' => Lfr I I' F F' ∧ KFin M n b (I' 0 8) (kr F')) := by
  have hb3 : b = 1 ∨ b = 3 ∨ b = 18 := by rcases hP with ⟨-, h, -⟩ | ⟨-, h, -⟩ | ⟨-, h, -⟩ <;> omega
  have hw3 : 2 * b + 1 = 3 ∨ 2 * b + 1 = 7 ∨ 2 * b + 1 = 37 := by omega
  have hT6 : (2 * b + 1) ^ (n - 1).toNat ≤ 60000 := by
    rcases (show (n - 1).toNat = 1 ∨ (n - 1).toNat = 2 ∨ (n - 1).toNat = 3 by omega) with e | e | e <;> rw [e] <;> rcases hb3 with rfl | rfl | rfl <;> decide
  have hTp : 0 < (2 * b + 1) ^ (n - 1).toNat := Int.pow_pos (by omega)
  generalize hT : (2 * b + 1) ^ (n - 1).toNat = T at hT6 hTp
  have u8 : upI I 0 8 0 0 8 = 0 := by simp [upI]
  have tail : ∀ (c : Nat) x y I' F', (c : Int) = T → Lfr I I' F F' → KLI M n b c (I' 0 8) (kr F') → WS m8_layKernel d 0 0 shM.length (fun r sh' I' F' => sh' = shM ∧ r = none ∧ Lfr I I' F F' ∧ KFin M n b (I' 0 8) (kr F')) 0 0 158 [lr 0, li b, li n, li (2 * b + 1), li T, li c, x, y] [] shM I' F' := by
    intro c x y I' F' hc hf hK
    have hM' : NM M F' := ⟨fun j hj => by rw [hf.2 1 (by decide) (by decide)]; exact hM.1 j hj, hM.2⟩
    have fin := hK.fin (by omega) hn hP (by rw [hT]; exact hc)
    have cap := hK.cap hn hP (by rw [hT]; omega)
    have k0 := hK.1
    refine w_aload i8_layKernel_158 rfl ?_
    refine w_iload i8_layKernel_159 rfl ?_
    refine w_const i8_layKernel_160 ?_
    refine w_isub i8_layKernel_161 (by omega) ?_
    refine w_cVP i8_layKernel_162 f8_isZeroColumn v8_isZeroColumn (r_isZeroColumn (by omega) hM' (by omega)) rfl rfl (by decide) rfl rfl (Nat.le_of_ble_eq_true rfl) (by omega) (fun v hv => ?_)
    refine w_ifeq i8_layKernel_165 (fun h165 => ?_) (fun h165 => ?_)
    · refine w_vret i8_layKernel_207 rfl ⟨Nat.le_refl _, Nat.le_refl _⟩ ?_
      refine ⟨rfl, rfl, hf, fin.1 (fun g => ?_)⟩
      rcases hv with ⟨h, -⟩ | ⟨-, h⟩
      · omega
      · exact h g
    · refine w_const i8_layKernel_168 ?_
      refine w_is5 i8_layKernel_169 ?_
      refine lr_lk171 (F := F') hn (fun F1 h1 h2 => ?_) 4 0 F' (by omega) (fun j hj => absurd hj (by omega)) (fun _ _ => rfl)
      refine w_aload i8_layKernel_203 rfl ?_
      refine w_cVU i8_layKernel_204 f8_addKernel v8_addKernel (r_addKernel (by omega)) rfl rfl (by decide) rfl rfl (Nat.le_of_ble_eq_true rfl) (by omega) (fun I2 F2 hq => ?_)
      obtain ⟨eI, r1, r2, r3⟩ := hq
      have hl : lcz M n := by
        rcases hv with ⟨-, h⟩ | ⟨h, -⟩
        · exact h
        · omega
      have i8 : I2 0 8 = I' 0 8 + 1 := by rw [eI]; simp [upI]
      refine w_vret i8_layKernel_207 rfl ⟨Nat.le_refl _, Nat.le_refl _⟩ ⟨rfl, rfl, ⟨fun a k h => by rw [eI]; simp only [upI]; rw [if_neg (by omega)]; exact hf.1 a k h, fun a h3 h4 => by rw [r3 a h3, h2 a h4, hf.2 a h3 h4]⟩, ?_⟩
      rw [i8]
      refine fin.2 _ hl (fun i hi j hj => ?_) (fun j hj => ?_)
      · unfold kr
        rw [r2 _ (by omega), h2 5 (by decide)]
      · unfold kr
        rw [r1 j hj, h1 j hj]
  refine MS_of (ls := [lr 0, li b, lu, lu, lu, lu, lu, lu]) f8_layKernel rfl rfl (Nat.le_of_ble_eq_true rfl) ?_
  refine w_aload i8_layKernel_0 rfl ?_
  refine w_getr i8_layKernel_1 rfl rfl ?_
  refine w_const i8_layKernel_4 ?_
  refine w_iald i8_layKernel_5 rfl (by decide) ?_
  rw [hn1]
  refine w_is2 i8_layKernel_6 ?_
  refine w_const i8_layKernel_7 ?_
  refine w_iload i8_layKernel_8 rfl ?_
  refine w_imul i8_layKernel_9 (by omega) ?_
  refine w_const i8_layKernel_10 ?_
  refine w_iadd i8_layKernel_11 (by omega) ?_
  refine w_is3 i8_layKernel_12 ?_
  refine w_const i8_layKernel_13 ?_
  refine w_is4 i8_layKernel_14 ?_
  refine w_const i8_layKernel_16 ?_
  refine w_is5 i8_layKernel_17 ?_
  refine Eq.mp (congrArg (fun z => WS m8_layKernel d 0 0 _ _ 0 0 19 [lr 0, li b, li n, li (2 * b + 1), li z, li 1, lu, lu] [] shM I F) (Int.pow_zero (2 * b + 1))) ?_
  refine lr_lkA (w := 2 * b + 1) hn hw3 ?_ (n - 1).toNat 0 (by omega)
  rw [hT]
  refine w_aload i8_layKernel_37 rfl ?_
  refine w_const i8_layKernel_38 ?_
  refine w_put i8_layKernel_39 rfl rfl (Or.inl rfl) ?_
  refine w_const i8_layKernel_42 ?_
  refine w_is5 i8_layKernel_43 ?_
  refine lr_lk45 (F := F) (T := T) (by omega) hM hn1 hn rfl (by omega) hP hT.symm hT6 tail T.toNat 0 _ _ (upI I 0 8 0) F (by omega) ⟨fun a k h => by simp only [upI]; rw [if_neg (by omega)], fun _ _ _ => rfl⟩ ?_
  rw [u8]
  exact ⟨Int.le_refl _, fun i hi => absurd hi (by omega), fun i j hij => absurd hij (by omega), fun z c' hc => absurd hc (Nat.not_lt_zero _)⟩
