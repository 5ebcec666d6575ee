theorem MK.up {m : Int} {Ad : Int → Int → Prop} {g : Int → Int} {s b r : Int} {f : Int → Int} (h : MK m Ad g s b r f) : MK m Ad g s b (r + 1) f := ⟨h.1, fun j hj hg => by rcases h.2.1 j hj hg with c | c; exact .inl c; exact .inr (by omega), h.2.2.1, h.2.2.2⟩
theorem DN.row {m : Int} {Ad : Int → Int → Prop} {g : Int → Int} {s b r i : Int} {f : Int → Int} (hK : MK m Ad g s b (r + 1) f) (hG : GB m Ad g b) (hr : 0 ≤ r) (h : DN m Ad g b (fun i' => f i' < b + r ∨ f i' = b + r ∧ i' < i) f) (hf : f i = b + r → ∀ j, 0 ≤ j ∧ j < m → Ad i j → 0 ≤ f j) : DN m Ad g b (fun i' => f i' < b + r ∨ f i' = b + r ∧ i' < i + 1) f := fun i' hi' hg hb hP j hj ha => by
  by_cases c : i' = i ∧ f i' = b + r
  · obtain ⟨rfl, c2⟩ := c
    have := hf c2 j hj ha
    refine ⟨this, ?_⟩
    rcases hG.1 j hj with e | e
    · rcases hK.2.1 j hj (by omega) with e2 | e2 <;> omega
    · rw [hK.1 j hj e.1]; omega
  · exact h i' hi' hg hb (by dsimp only at hP ⊢; omega) j hj ha
section MOVES
variable {d n0 : Nat} {Q : PQ} {S : Sx} {G : FE} {m : Nat} {own : Int}
/-- what the marking keeps -/
def MrV (G F : FE) : Prop := ∀ a, 62 ≤ a → a ≠ 68 → F a = G a
theorem mvJ {g : Int → Int} {c s r i : Int} (hd : 7 ≤ d) (hFP : FP S G) (hm : (m : Int) = fbm (gM S.1) (gC S.1) (gY S.1)) (hm24 : m ≤ 24) (hR : RwF S m G) (hc : 0 ≤ c ∧ c ≤ 100) (hr : 0 ≤ r ∧ r < m) (hi : 0 ≤ i ∧ i < (m : Int)) (hG : GB m (Ap S) g (1000 * c)) (hs : g s < 0) (hgi : g i < 0)
    (K : ∀ x14 done I F, CI S I F → MrV G F → MK m (Ap S) g s (1000 * c) (r + 1) (F 68) → DN m (Ap S) g (1000 * c) (fun i' => F 68 i' < 1000 * c + r ∨ F 68 i' = 1000 * c + r ∧ i' < i + 1) (F 68) → done = cP (fun j => 0 ≤ F 68 j) m → WS mL_moves d 0 0 n0 Q 0 0 178 [lr 0, lr 62, li own, li m, lr 64, lr 65, lr 66, lr 67, lr 68, li c, li done, li s, li r, li i, x14] [] shL I F) :
    ∀ (w k : Nat) (done : Int) (I : IE) (F : FE), k + w = m → CI S I F → MrV G F → MK m (Ap S) g s (1000 * c) (r + 1) (F 68) → DN m (Ap S) g (1000 * c) (fun i' => F 68 i' < 1000 * c + r ∨ F 68 i' = 1000 * c + r ∧ i' < i) (F 68) → F 68 i = 1000 * c + r → (∀ j, 0 ≤ j ∧ j < (k : Int) → Ap S i j → 0 ≤ F 68 j) → done = cP (fun j => 0 ≤ F 68 j) m →
      WS mL_moves d 0 0 n0 Q 0 0 74 [lr 0, lr 62, li own, li m, lr 64, lr 65, lr 66, lr 67, lr 68, li c, li done, li s, li r, li i, li k] [] shL I F := by
  have hn := hFP.1.1.2.1
  intro w
  induction w with
  | zero =>
    intro k done I F hk hC hV hK hD hfi ha hdn
    obtain rfl : k = m := by omega
    refine w_iload iL_moves_74 rfl ?_
    refine w_iload iL_moves_76 rfl ?_
    refine w_icmpge iL_moves_77 (fun h77 => ?_) (fun h_ => absurd h_ (by omega))
    exact K _ _ I F hC hV hK (hD.row hK hG hr.1 (fun _ j hj => ha j hj)) hdn
  | succ w ih =>
    intro k done I F hk hC hV hK hD hfi ha hdn
    have hcb := cP_b (P := fun j => 0 ≤ F 68 j) m
    have hkm : 0 ≤ (k : Int) ∧ (k : Int) < m := by omega
    obtain ⟨a0, a1, a2, a3⟩ := hR i hi
    obtain ⟨b0, b1, b2, b3⟩ := hR k hkm
    obtain ⟨ib, iz, -, -⟩ := hFP.row (i := i) (by omega)
    obtain ⟨kb, kz, -, -⟩ := hFP.row (i := (k : Int)) (by omega)
    have i0 := ib 0 (by decide); have i1 := ib 1 (by decide); have i2 := ib 2 (by decide); have i3 := ib 3 (by decide)
    have k0 := kb 0 (by decide); have k1 := kb 1 (by decide); have k2 := kb 2 (by decide); have k3 := kb 3 (by decide)
    rw [← hV 64 (by decide) (by decide)] at a0 b0
    rw [← hV 65 (by decide) (by decide)] at a1 b1
    rw [← hV 66 (by decide) (by decide)] at a2 b2
    rw [← hV 67 (by decide) (by decide)] at a3 b3
    have nx : ∀ (I1 : IE) (F1 : FE), CI S I1 F1 → (∀ a, 62 ≤ a → F1 a = F a) → (Ap S i k → 0 ≤ F 68 k) → WS mL_moves d 0 0 n0 Q 0 0 172 [lr 0, lr 62, li own, li m, lr 64, lr 65, lr 66, lr 67, lr 68, li c, li done, li s, li r, li i, li k] [] shL I1 F1 := fun I1 F1 hC1 hF1 hak => by
      have e := hF1 68 (by decide)
      refine w_ii14 iL_moves_172 (by omega) ?_
      refine w_goto iL_moves_175 ?_
      refine ih (k + 1) done I1 F1 (by omega) hC1 (fun a ha1 ha2 => (hF1 a ha1).trans (hV a ha1 ha2)) (by rw [e]; exact hK) (by rw [e]; exact hD) (by rw [e]; exact hfi) (fun j hj haj => ?_) (by rw [e]; exact hdn)
      rw [e]
      by_cases cj : j = k
      · rw [cj] at haj ⊢; exact hak haj
      · exact ha j (by omega) haj
    refine w_iload iL_moves_74 rfl ?_
    refine w_iload iL_moves_76 rfl ?_
    refine w_icmpge iL_moves_77 (fun h_ => absurd h_ (by omega)) (fun h77 => ?_)
    refine w_aload iL_moves_80 rfl ?_
    refine w_iload iL_moves_82 rfl ?_
    refine w_iald iL_moves_84 sL68 (by omega) ?_
    rw [hfi]
    refine w_const iL_moves_85 ?_
    refine w_iload iL_moves_88 rfl ?_
    refine w_imul iL_moves_90 (by omega) ?_
    refine w_iload iL_moves_91 rfl ?_
    refine w_iadd iL_moves_93 (by omega) ?_
    refine w_icmpne iL_moves_94 (fun h_ => absurd h_ (fun z => z rfl)) (fun h94 => ?_)
    refine w_aload iL_moves_97 rfl ?_
    refine w_iload iL_moves_99 rfl ?_
    refine w_iald iL_moves_101 sL68 (by omega) ?_
    refine w_ifge iL_moves_102 (fun h102 => ?_) (fun h102 => ?_)
    · exact nx I F hC (fun _ _ => rfl) (fun _ => h102)
    · refine w_aload iL_moves_105 rfl ?_
      refine w_aload iL_moves_106 rfl ?_
      refine w_aload iL_moves_107 rfl ?_
      refine w_iload iL_moves_109 rfl ?_
      refine w_iald iL_moves_111 sL64 (by omega) ?_
      rw [b0]
      refine w_aload iL_moves_112 rfl ?_
      refine w_iload iL_moves_114 rfl ?_
      refine w_iald iL_moves_116 sL64 (by omega) ?_
      rw [a0]
      refine w_isub iL_moves_117 (by omega) ?_
      refine w_aload iL_moves_118 rfl ?_
      refine w_iload iL_moves_120 rfl ?_
      refine w_iald iL_moves_122 sL65 (by omega) ?_
      rw [b1]
      refine w_aload iL_moves_123 rfl ?_
      refine w_iload iL_moves_125 rfl ?_
      refine w_iald iL_moves_127 sL65 (by omega) ?_
      rw [a1]
      refine w_isub iL_moves_128 (by omega) ?_
      refine w_aload iL_moves_129 rfl ?_
      refine w_iload iL_moves_131 rfl ?_
      refine w_iald iL_moves_133 sL66 (by omega) ?_
      rw [b2]
      refine w_aload iL_moves_134 rfl ?_
      refine w_iload iL_moves_136 rfl ?_
      refine w_iald iL_moves_138 sL66 (by omega) ?_
      rw [a2]
      refine w_isub iL_moves_139 (by omega) ?_
      refine w_aload iL_moves_140 rfl ?_
      refine w_iload iL_moves_142 rfl ?_
      refine w_iald iL_moves_144 sL67 (by omega) ?_
      rw [b3]
      refine w_aload iL_moves_145 rfl ?_
      refine w_iload iL_moves_147 rfl ?_
      refine w_iald iL_moves_149 sL67 (by omega) ?_
      rw [a3]
      refine w_isub iL_moves_150 (by omega) ?_
      refine w_cSB iL_moves_151 fL_apart vL_apart (sL_apart (by omega) hC (by rw [hV 62 (by decide) (by decide)]; exact hFP.2.1.2.1) (by omega) (by omega) (by omega) (by omega) (fun c3 => by rw [kz 2 (by omega), iz 2 (by omega)]; rfl) (fun c4 => by rw [kz 3 (by omega), iz 3 (by omega)]; rfl)) rfl rfl (Nat.le_of_ble_eq_true rfl) (by omega) ⟨Nat.le_refl _, Nat.le_refl _⟩ (fun v I1 F1 hq => ?_)
      obtain ⟨hC1, hF1, hv⟩ := hq
      refine w_ifeq iL_moves_154 (fun h154 => ?_) (fun h154 => ?_)
      · refine nx I1 F1 hC1 hF1 (fun z => ?_)
        rcases hv with ⟨g1, -⟩ | ⟨-, g1⟩
        · omega
        · exact absurd z g1
      · refine w_aload iL_moves_157 rfl ?_
        refine w_iload iL_moves_159 rfl ?_
        refine w_aload iL_moves_161 rfl ?_
        refine w_iload iL_moves_163 rfl ?_
        refine w_iald iL_moves_165 sL68 (by omega) ?_
        rw [hF1 68 (by decide), hfi]
        refine w_const iL_moves_166 ?_
        refine w_iadd iL_moves_167 (by omega) ?_
        refine w_iast iL_moves_168 sL68 (by omega) ?_
        refine w_ii10 iL_moves_169 (by omega) ?_
        skip
        have hap : Ap S i k := by
          rcases hv with ⟨-, g1⟩ | ⟨g1, -⟩
          · exact g1
          · omega
        have e := hF1 68 (by decide)
        have ef : upF F1 68 k (1000 * c + r + 1) 68 = fun j => if j = (k : Int) then F 68 i + 1 else F 68 j := by
          funext j
          simp only [upF, true_and]
          rw [e, hfi]
        have hK2 : MK m (Ap S) g s (1000 * c) (r + 1) (upF F1 68 k (1000 * c + r + 1) 68) := by
          rw [ef]
          refine MK.oneR hK hG hs (by omega) hi hgi hfi hkm h102 hap hr.1
        refine w_ii14 iL_moves_172 (by omega) ?_
        refine w_goto iL_moves_175 ?_
        have fj : ∀ j, j ≠ (k : Int) → upF F1 68 k (1000 * c + r + 1) 68 j = F 68 j := fun j hj => by rw [ef]; dsimp only; rw [if_neg hj]
        have fk : upF F1 68 k (1000 * c + r + 1) 68 k = 1000 * c + r + 1 := by rw [ef]; dsimp only; rw [if_pos rfl, hfi]
        have hik : i ≠ (k : Int) := fun z => by rw [← z] at h102; omega
        refine ih (k + 1) _ _ _ (by omega) (hC1.up (by decide)) (fun a ha1 ha2 => ?_) hK2 (fun i' hi' hg' hb' hP j hj haj => ?_) (by rw [fj i hik]; exact hfi) (fun j hj haj => ?_) ?_
        · rw [← hV a ha1 ha2, ← hF1 a ha1]; funext j; simp only [upF]; rw [if_neg (fun z => ha2 z.1)]
        · by_cases ci : i' = (k : Int)
          · dsimp only at hP; rw [ci, fk] at hP; omega
          · dsimp only at hP
            rw [fj i' ci] at hb' hP ⊢
            have := hD i' hi' hg' hb' hP j hj haj
            by_cases cj : j = (k : Int)
            · rw [cj] at this; omega
            · rw [fj j cj]; exact this
        · by_cases cj : j = (k : Int)
          · rw [cj, fk]; omega
          · rw [fj j cj]; exact ha j (by omega) haj
        · rw [hdn]
          refine (cP_one (a := (k : Int)) m hkm (by omega) (fun j hj => ?_)).symm
          by_cases cj : j = (k : Int)
          · rw [cj, fk]; exact ⟨fun _ => .inr rfl, fun _ => by omega⟩
          · rw [fj j cj]; exact ⟨fun z => .inl z, fun z => z.elim id (fun z => absurd z cj)⟩
theorem mvI {g : Int → Int} {c s r : Int} (hd : 7 ≤ d) (hFP : FP S G) (hm : (m : Int) = fbm (gM S.1) (gC S.1) (gY S.1)) (hm24 : m ≤ 24) (hR : RwF S m G) (hc : 0 ≤ c ∧ c ≤ 100) (hr : 0 ≤ r ∧ r < m) (hG : GB m (Ap S) g (1000 * c)) (hs : g s < 0)
    (K : ∀ x13 x14 done I F, CI S I F → MrV G F → MK m (Ap S) g s (1000 * c) (r + 1) (F 68) → DN m (Ap S) g (1000 * c) (fun i' => F 68 i' < 1000 * c + (r + 1)) (F 68) → done = cP (fun j => 0 ≤ F 68 j) m → WS mL_moves d 0 0 n0 Q 0 0 184 [lr 0, lr 62, li own, li m, lr 64, lr 65, lr 66, lr 67, lr 68, li c, li done, li s, li r, x13, x14] [] shL I F) :
    ∀ (w k : Nat) (x14 : Option AV) (done : Int) (I : IE) (F : FE), k + w = m → CI S I F → MrV G F → MK m (Ap S) g s (1000 * c) (r + 1) (F 68) → DN m (Ap S) g (1000 * c) (fun i' => F 68 i' < 1000 * c + r ∨ F 68 i' = 1000 * c + r ∧ i' < (k : Int)) (F 68) → done = cP (fun j => 0 ≤ F 68 j) m →
      WS mL_moves d 0 0 n0 Q 0 0 65 [lr 0, lr 62, li own, li m, lr 64, lr 65, lr 66, lr 67, lr 68, li c, li done, li s, li r, li k, x14] [] shL I F := by
  intro w
  induction w with
  | zero =>
    intro k x14 done I F hk hC hV hK hD hdn
    obtain rfl : k = m := by omega
    refine w_iload iL_moves_65 rfl ?_
    refine w_iload iL_moves_67 rfl ?_
    refine w_icmpge iL_moves_68 (fun h68 => ?_) (fun h_ => absurd h_ (by omega))
    exact K _ _ _ I F hC hV hK (fun i' hi' hg' hb' hP => hD i' hi' hg' hb' (by dsimp only at hP ⊢; omega)) hdn
  | succ w ih =>
    intro k x14 done I F hk hC hV hK hD hdn
    have hkm : 0 ≤ (k : Int) ∧ (k : Int) < m := by omega
    have nx : ∀ (x14 : Option AV) (done : Int) (I1 : IE) (F1 : FE), CI S I1 F1 → MrV G F1 → MK m (Ap S) g s (1000 * c) (r + 1) (F1 68) → DN m (Ap S) g (1000 * c) (fun i' => F1 68 i' < 1000 * c + r ∨ F1 68 i' = 1000 * c + r ∧ i' < (k : Int) + 1) (F1 68) → done = cP (fun j => 0 ≤ F1 68 j) m → WS mL_moves d 0 0 n0 Q 0 0 178 [lr 0, lr 62, li own, li m, lr 64, lr 65, lr 66, lr 67, lr 68, li c, li done, li s, li r, li k, x14] [] shL I1 F1 := fun x14 done I1 F1 h1 h2 h3 h4 h5 => by
      refine w_ii13 iL_moves_178 (by omega) ?_
      refine w_goto iL_moves_181 ?_
      exact ih (k + 1) _ _ _ _ (by omega) h1 h2 h3 h4 h5
    by_cases cf : F 68 k = 1000 * c + r
    · have hgk : g k < 0 := by
        rcases hG.1 k hkm with e | e
        · omega
        · have := hK.1 k hkm e.1; omega
      refine w_iload iL_moves_65 rfl ?_
      refine w_iload iL_moves_67 rfl ?_
      refine w_icmpge iL_moves_68 (fun h_ => absurd h_ (by omega)) (fun h68 => ?_)
      refine w_const iL_moves_71 ?_
      refine w_is14 iL_moves_72 ?_
      exact mvJ hd hFP hm hm24 hR hc hr hkm hG hs hgk (fun x14 done I1 F1 h1 h2 h3 h4 h5 => nx x14 done I1 F1 h1 h2 h3 h4 h5) m 0 done I F (by omega) hC hV hK hD cf (fun j hj => absurd hj (by omega)) hdn
    · refine w_iload iL_moves_65 rfl ?_
      refine w_iload iL_moves_67 rfl ?_
      refine w_icmpge iL_moves_68 (fun h_ => absurd h_ (by omega)) (fun h68 => ?_)
      refine w_const iL_moves_71 ?_
      refine w_is14 iL_moves_72 ?_
      refine w_iload iL_moves_74 rfl ?_
      refine w_iload iL_moves_76 rfl ?_
      refine w_icmpge iL_moves_77 (fun h_ => absurd h_ (by omega)) (fun h77 => ?_)
      refine w_aload iL_moves_80 rfl ?_
      refine w_iload iL_moves_82 rfl ?_
      refine w_iald iL_moves_84 sL68 (by omega) ?_
      refine w_const iL_moves_85 ?_
      refine w_iload iL_moves_88 rfl ?_
      refine w_imul iL_moves_90 (by omega) ?_
      refine w_iload iL_moves_91 rfl ?_
      refine w_iadd iL_moves_93 (by omega) ?_
      refine w_icmpne iL_moves_94 (fun h94 => ?_) (fun h_ => absurd h_ (cf))
      exact nx _ done I F hC hV hK (hD.row hK hG hr.1 (fun z => absurd z cf)) hdn
theorem mvR {g : Int → Int} {c s : Int} (hd : 7 ≤ d) (hFP : FP S G) (hm : (m : Int) = fbm (gM S.1) (gC S.1) (gY S.1)) (hm24 : m ≤ 24) (hR : RwF S m G) (hc : 0 ≤ c ∧ c ≤ 100) (hG : GB m (Ap S) g (1000 * c)) (hs : g s < 0)
    (K : ∀ x12 x13 x14 done I F, CI S I F → MrV G F → MK m (Ap S) g s (1000 * c) m (F 68) → DN m (Ap S) g (1000 * c) (fun i' => F 68 i' < 1000 * c + m) (F 68) → done = cP (fun j => 0 ≤ F 68 j) m → WS mL_moves d 0 0 n0 Q 0 0 190 [lr 0, lr 62, li own, li m, lr 64, lr 65, lr 66, lr 67, lr 68, li c, li done, li s, x12, x13, x14] [] shL I F) :
    ∀ (w k : Nat) (x13 x14 : Option AV) (done : Int) (I : IE) (F : FE), k + w = m → CI S I F → MrV G F → MK m (Ap S) g s (1000 * c) k (F 68) → DN m (Ap S) g (1000 * c) (fun i' => F 68 i' < 1000 * c + k) (F 68) → done = cP (fun j => 0 ≤ F 68 j) m →
      WS mL_moves d 0 0 n0 Q 0 0 56 [lr 0, lr 62, li own, li m, lr 64, lr 65, lr 66, lr 67, lr 68, li c, li done, li s, li k, x13, x14] [] shL I F := by
  intro w
  induction w with
  | zero =>
    intro k x13 x14 done I F hk hC hV hK hD hdn
    obtain rfl : k = m := by omega
    refine w_iload iL_moves_56 rfl ?_
    refine w_iload iL_moves_58 rfl ?_
    refine w_icmpge iL_moves_59 (fun h59 => ?_) (fun h_ => absurd h_ (by omega))
    exact K _ _ _ _ I F hC hV hK hD hdn
  | succ w ih =>
    intro k x13 x14 done I F hk hC hV hK hD hdn
    have nx : ∀ (x13 x14 : Option AV) (done : Int) (I1 : IE) (F1 : FE), CI S I1 F1 → MrV G F1 → MK m (Ap S) g s (1000 * c) ((k : Int) + 1) (F1 68) → DN m (Ap S) g (1000 * c) (fun i' => F1 68 i' < 1000 * c + ((k : Int) + 1)) (F1 68) → done = cP (fun j => 0 ≤ F1 68 j) m → WS mL_moves d 0 0 n0 Q 0 0 184 [lr 0, lr 62, li own, li m, lr 64, lr 65, lr 66, lr 67, lr 68, li c, li done, li s, li k, x13, x14] [] shL I1 F1 := fun x13 x14 done I1 F1 h1 h2 h3 h4 h5 => by
      refine w_ii12 iL_moves_184 (by omega) ?_
      refine w_goto iL_moves_187 ?_
      exact ih (k + 1) _ _ _ _ _ (by omega) h1 h2 h3 h4 h5
    refine w_iload iL_moves_56 rfl ?_
    refine w_iload iL_moves_58 rfl ?_
    refine w_icmpge iL_moves_59 (fun h_ => absurd h_ (by omega)) (fun h59 => ?_)
    refine w_const iL_moves_62 ?_
    refine w_is13 iL_moves_63 ?_
    exact mvI hd hFP hm hm24 hR hc (by omega) hG hs (fun x13 x14 done I1 F1 h1 h2 h3 h4 h5 => nx x13 x14 done I1 F1 h1 h2 h3 h4 h5) m 0 _ done I F (by omega) hC hV hK.up (fun i' hi' hg' hb' hP => hD i' hi' hg' hb' (by dsimp only at hP ⊢; omega)) hdn
/-- the next one without a mark -/
theorem mvF {c done : Int} {F : FE} {I : IE} (hm24 : m ≤ 24)
    (K : ∀ k : Int, 0 ≤ k ∧ k ≤ (m : Int) → (∀ j, 0 ≤ j ∧ j < k → 0 ≤ F 68 j) → (k < (m : Int) → F 68 k < 0) → ∀ x12 x13 x14, WS mL_moves d 0 0 n0 Q 0 0 30 [lr 0, lr 62, li own, li m, lr 64, lr 65, lr 66, lr 67, lr 68, li c, li done, li k, x12, x13, x14] [] shL I F) :
    ∀ (w k : Nat) (x12 x13 x14 : Option AV), k + w = m → (∀ j, 0 ≤ j ∧ j < (k : Int) → 0 ≤ F 68 j) → WS mL_moves d 0 0 n0 Q 0 0 193 [lr 0, lr 62, li own, li m, lr 64, lr 65, lr 66, lr 67, lr 68, li c, li done, li k, x12, x13, x14] [] shL I F := by
  intro w
  induction w with
  | zero =>
    intro k x12 x13 x14 hk ha
    obtain rfl : k = m := by omega
    refine w_iload iL_moves_193 rfl ?_
    refine w_iload iL_moves_195 rfl ?_
    refine w_icmpge iL_moves_196 (fun h196 => ?_) (fun h_ => absurd h_ (by omega))
    exact K k ⟨by omega, by omega⟩ ha (fun z => by omega) _ _ _
  | succ w ih =>
    intro k x12 x13 x14 hk ha
    refine w_iload iL_moves_193 rfl ?_
    refine w_iload iL_moves_195 rfl ?_
    refine w_icmpge iL_moves_196 (fun h_ => absurd h_ (by omega)) (fun h196 => ?_)
    refine w_aload iL_moves_199 rfl ?_
    refine w_iload iL_moves_201 rfl ?_
    refine w_iald iL_moves_203 sL68 (by omega) ?_
    refine w_iflt iL_moves_204 (fun h204 => ?_) (fun h204 => ?_)
    · exact K k ⟨by omega, by omega⟩ ha (fun _ => h204) _ _ _
    · refine w_ii11 iL_moves_207 (by omega) ?_
      refine w_goto iL_moves_210 ?_
      refine ih (k + 1) _ _ _ (by omega) (fun j hj => ?_)
      by_cases cj : j = (k : Int)
      · rw [cj]; exact h204
      · exact ha j (by omega)
theorem mvW (hd : 7 ≤ d) (hFP : FP S G) (hm : (m : Int) = fbm (gM S.1) (gC S.1) (gY S.1)) (hm24 : m ≤ 24) (hR : RwF S m G) (hown : 0 ≤ own ∧ own < (m : Int))
    (K : ∀ x11 x12 x13 x14 c I F, CI S I F → MrV G F → WI m (Ap S) own c m (F 68) → WS mL_moves d 0 0 n0 Q 0 0 213 [lr 0, lr 62, li own, li m, lr 64, lr 65, lr 66, lr 67, lr 68, li c, li m, x11, x12, x13, x14] [] shL I F) :
    ∀ (w : Nat) (c done s : Int) (x12 x13 x14 : Option AV) (I : IE) (F : FE), c + w = (m : Int) + 1 → CI S I F → MrV G F → WI m (Ap S) own c done (F 68) → (done < (m : Int) → (0 ≤ s ∧ s < (m : Int)) ∧ F 68 s < 0) → (c = 0 → s = own) →
      WS mL_moves d 0 0 n0 Q 0 0 30 [lr 0, lr 62, li own, li m, lr 64, lr 65, lr 66, lr 67, lr 68, li c, li done, li s, x12, x13, x14] [] shL I F := by
  have hn := hFP.1.1.2.1
  have hsy : ∀ i j, (0 ≤ i ∧ i < (m : Int)) → (0 ≤ j ∧ j < (m : Int)) → Ap S i j → Ap S j i := fun i j _ _ h => h.sy hn
  intro w
  induction w with
  | zero =>
    intro c done s x12 x13 x14 I F hw hC hV hW hs h0
    have := cP_b (P := fun k => LR m (Ap S) k ∧ 0 ≤ F 68 k) m
    have := hW.2.2.1
    omega
  | succ w ih =>
    intro c done s x12 x13 x14 I F hw hC hV hW hs h0
    have cb := cP_b (P := fun j => 0 ≤ F 68 j) m
    have dn := hW.2.1
    have c0 := hW.1
    by_cases hdm : done < (m : Int)
    · obtain ⟨hsm, hsf⟩ := hs hdm
      have hG : GB m (Ap S) (F 68) (1000 * (c + 1)) := ⟨fun j hj => by rcases hW.2.2.2.2.1 j hj with e | e <;> omega, hW.2.2.2.2.2.1⟩
      generalize hg : F 68 = g at *
      -- behind a class
      have nx : ∀ (x12 x13 x14 : Option AV) (done' : Int) (I1 : IE) (F1 : FE), CI S I1 F1 → MrV G F1 → MK m (Ap S) g s (1000 * (c + 1)) m (F1 68) → DN m (Ap S) g (1000 * (c + 1)) (fun i' => F1 68 i' < 1000 * (c + 1) + m) (F1 68) → done' = cP (fun j => 0 ≤ F1 68 j) m → WS mL_moves d 0 0 n0 Q 0 0 190 [lr 0, lr 62, li own, li m, lr 64, lr 65, lr 66, lr 67, lr 68, li (c + 1), li done', li s, x12, x13, x14] [] shL I1 F1 := fun x12 x13 x14 done' I1 F1 h1 h2 h3 h4 h5 => by
        have hW1 := hW.next (by omega) hown hsm hsf h0 hsy h3 h4 h5
        refine w_const iL_moves_190 ?_
        refine w_is11 iL_moves_191 ?_
        refine mvF hm24 (fun k hk ha hkf x12 x13 x14 => ?_) m 0 _ _ _ (by omega) (fun j hj => absurd hj (by omega))
        refine ih (c + 1) done' k _ _ _ I1 F1 (by omega) h1 h2 hW1 (fun hlt => ?_) (fun z => by omega)
        have : k < (m : Int) := by
          apply Classical.byContradiction
          intro z
          have : cP (fun j => 0 ≤ F1 68 j) m = m := cP_full m (fun j hj => ha j (by omega))
          omega
        exact ⟨⟨hk.1, this⟩, hkf this⟩
      have ef : upF F 68 s (1000 * (c + 1)) 68 = fun j => if j = s then 1000 * (c + 1) else g j := by
        funext j
        simp only [upF, true_and]
        rw [hg]
      have hK0 : MK m (Ap S) g s (1000 * (c + 1)) ((0 : Nat) : Int) (upF F 68 s (1000 * (c + 1)) 68) := by
        rw [ef]
        refine ⟨fun j hj hg0 => ?_, fun j hj hg0 => ?_, if_pos rfl, fun j hj hg0 hf => ?_⟩
        · dsimp only; rw [if_neg (fun z => by rw [z] at hg0; omega)]
        · dsimp only
          by_cases cj : j = s
          · rw [if_pos cj]; exact .inr (by omega)
          · rw [if_neg cj]
            rcases hW.2.2.2.2.1 j hj with e | e
            · exact .inl e
            · omega
        · dsimp only at hf
          by_cases cj : j = s
          · exact .inl cj
          · rw [if_neg cj] at hf; omega
      have hD0 : DN m (Ap S) g (1000 * (c + 1)) (fun i' => upF F 68 s (1000 * (c + 1)) 68 i' < 1000 * (c + 1) + ((0 : Nat) : Int)) (upF F 68 s (1000 * (c + 1)) 68) := fun i' hi' hg' hb' hP => by
        dsimp only at hP; omega
      have hcp : done + 1 = cP (fun j => 0 ≤ upF F 68 s (1000 * (c + 1)) 68 j) m := by
        rw [dn]
        refine (cP_one (a := s) m hsm (by omega) (fun j hj => ?_)).symm
        rw [ef]
        dsimp only
        by_cases cj : j = s
        · rw [if_pos cj]; exact ⟨fun _ => .inr cj, fun _ => by omega⟩
        · rw [if_neg cj]; exact ⟨fun z => .inl z, fun z => z.elim id (fun z => absurd z cj)⟩
      refine w_iload iL_moves_30 rfl ?_
      refine w_iload iL_moves_32 rfl ?_
      refine w_icmpge iL_moves_33 (fun h_ => absurd h_ (by omega)) (fun h33 => ?_)
      refine w_ii9 iL_moves_36 (by omega) ?_
      refine w_aload iL_moves_39 rfl ?_
      refine w_iload iL_moves_41 rfl ?_
      refine w_const iL_moves_43 ?_
      refine w_iload iL_moves_46 rfl ?_
      refine w_imul iL_moves_48 (by omega) ?_
      refine w_iast iL_moves_49 sL68 (by omega) ?_
      refine w_ii10 iL_moves_50 (by omega) ?_
      refine w_const iL_moves_53 ?_
      refine w_is12 iL_moves_54 ?_
      exact mvR hd hFP hm hm24 hR (by have := cP_b (P := fun k => LR m (Ap S) k ∧ 0 ≤ g k) m; have := hW.2.2.1; omega) hG hsf (fun x12 x13 x14 done' I1 F1 h1 h2 h3 h4 h5 => nx x12 x13 x14 done' I1 F1 h1 h2 h3 h4 h5) m 0 _ _ _ I _ (by omega) (hC.up (by decide)) (fun a ha1 ha2 => by rw [← hV a ha1 ha2]; funext j; simp only [upF]; rw [if_neg (fun z => ha2 z.1)]) hK0 hD0 hcp
    · have e : done = (m : Int) := by omega
      subst e
      refine w_iload iL_moves_30 rfl ?_
      refine w_iload iL_moves_32 rfl ?_
      refine w_icmpge iL_moves_33 (fun h33 => ?_) (fun h_ => absurd h_ (by omega))
      exact K _ _ _ _ c I F hC hV hW
/-- the distances told -/
theorem mvD {c : Int} (hd : 7 ≤ d) (hFP : FP S G) (hm : (m : Int) = fbm (gM S.1) (gC S.1) (gY S.1)) (hm24 : m ≤ 24) (ho : own = ixo (gM S.1) (gC S.1) (gY S.1) (gY S.1)) {f : Int → Int} (hW : WI m (Ap S) own c m f)
    (K : ∀ x12 x11 x13 x14 I F, CI S I F → MrV G F → WS mL_moves d 0 0 n0 Q 0 0 265 [lr 0, lr 62, li own, li m, lr 64, lr 65, lr 66, lr 67, lr 68, li c, li m, x11, x12, x13, x14] [] shL I F) :
    ∀ (w k : Nat) (x11 x13 x14 : Option AV) (I : IE) (F : FE), k + w = m → CI S I F → MrV G F → F 68 = f → WS mL_moves d 0 0 n0 Q 0 0 216 [lr 0, lr 62, li own, li m, lr 64, lr 65, lr 66, lr 67, lr 68, li c, li m, x11, li k, x13, x14] [] shL I F := by
  intro w
  induction w with
  | zero =>
    intro k x11 x13 x14 I F hk hC hV hf
    obtain rfl : k = m := by omega
    refine w_iload iL_moves_216 rfl ?_
    refine w_iload iL_moves_218 rfl ?_
    refine w_icmpge iL_moves_219 (fun h219 => ?_) (fun h_ => absurd h_ (by omega))
    exact K _ _ _ _ I F hC hV
  | succ w ih =>
    intro k x11 x13 x14 I F hk hC hV hf
    have hkm : 0 ≤ (k : Int) ∧ (k : Int) < m := by omega
    have all := cP_all (P := fun j => 0 ≤ f j) m hW.2.1.symm
    have fk := all k hkm
    have c1 : 1 ≤ c := by
      apply Classical.byContradiction
      intro z
      have := hW.2.2.2.1 (by have := hW.1; omega) k hkm
      try dsimp only at fk
      omega
    have D := hW.2.2.2.2.2.2 c1
    have D2 := sto_ds hFP
    rw [← hm, ← ho] at D2
    have u := D2.uq D hkm
    try dsimp only at u
    have lo := hW.2.2.2.2.1 k hkm
    have val : (if sto S k < 0 then -1009 else sto S k) = (if f k < 2000 then f k - 1000 else -1009) := by
      by_cases c2 : f k < 2000
      · rw [if_pos c2]
        rw [if_pos ⟨fk, c2⟩] at u
        have g1 := u.1.mpr (by omega)
        rw [if_neg (by omega)]
        exact u.2 g1
      · rw [if_neg c2]
        rw [if_neg (fun z => c2 z.2)] at u
        rw [if_pos]
        apply Classical.byContradiction
        intro z
        have := u.1.mp (by omega)
        omega
    refine w_iload iL_moves_216 rfl ?_
    refine w_iload iL_moves_218 rfl ?_
    refine w_icmpge iL_moves_219 (fun h_ => absurd h_ (by omega)) (fun h219 => ?_)
    refine w_aload iL_moves_222 rfl ?_
    refine w_iload iL_moves_223 rfl ?_
    refine w_o iL_moves_225 f7_distance v7_distance (o_distance hFP.2.2.1 hkm.1) hC rfl rfl rfl rfl (Nat.le_of_ble_eq_true rfl) (by omega) ⟨Nat.le_refl _, Nat.le_refl _⟩ (fun v1 S1 I1 F1 hq1 hC1 hf1 => ?_)
    obtain ⟨rfl, rfl⟩ := hq1
    have e := hf1 68 (by decide)
    rw [hf] at e
    refine w_aload iL_moves_228 rfl ?_
    refine w_iload iL_moves_230 rfl ?_
    refine w_iald iL_moves_232 sL68 (by omega) ?_
    rw [e]
    refine w_const iL_moves_233 ?_
    refine w_icmpge iL_moves_236 (fun h236 => ?_) (fun h236 => ?_)
    · refine w_const iL_moves_251 ?_
      refine w_icmpeq iL_moves_254 (fun h254 => ?_) (fun h_ => absurd h_ (by first | (rw [val, if_pos h236]; exact fun z => z rfl) | (rw [val, if_neg (by omega)]; exact fun z => z rfl)))
      refine w_ii12 iL_moves_259 (by omega) ?_
      refine w_goto iL_moves_262 ?_
      exact ih (k + 1) _ _ _ I1 F1 (by omega) hC1 (fun a h1 h2 => (hf1 a h1).trans (hV a h1 h2)) e
    · refine w_aload iL_moves_239 rfl ?_
      refine w_iload iL_moves_241 rfl ?_
      refine w_iald iL_moves_243 sL68 (by omega) ?_
      rw [e]
      refine w_const iL_moves_244 ?_
      refine w_isub iL_moves_247 (by omega) ?_
      refine w_goto iL_moves_248 ?_
      refine w_icmpeq iL_moves_254 (fun h254 => ?_) (fun h_ => absurd h_ (by first | (rw [val, if_pos h236]; exact fun z => z rfl) | (rw [val, if_neg (by omega)]; exact fun z => z rfl)))
      refine w_ii12 iL_moves_259 (by omega) ?_
      refine w_goto iL_moves_262 ?_
      exact ih (k + 1) _ _ _ I1 F1 (by omega) hC1 (fun a h1 h2 => (hf1 a h1).trans (hV a h1 h2)) e
/-- all marks begin at -1 -/
theorem mv0 (hm24 : m ≤ 24) (K : ∀ x11 I F, CI S I F → MrV G F → (∀ j, 0 ≤ j ∧ j < (m : Int) → F 68 j = -1) → WS mL_moves d 0 0 n0 Q 0 0 27 [lr 0, lr 62, li own, li m, lr 64, lr 65, lr 66, lr 67, lr 68, li 0, li 0, x11, lu, lu, lu] [] shL I F) :
    ∀ (w k : Nat) (I : IE) (F : FE), k + w = m → CI S I F → MrV G F → (∀ j, 0 ≤ j ∧ j < (k : Int) → F 68 j = -1) → WS mL_moves d 0 0 n0 Q 0 0 9 [lr 0, lr 62, li own, li m, lr 64, lr 65, lr 66, lr 67, lr 68, li 0, li 0, li k, lu, lu, lu] [] shL I F := by
  intro w
  induction w with
  | zero =>
    intro k I F hk hC hV ha
    obtain rfl : k = m := by omega
    refine w_iload iL_moves_9 rfl ?_
    refine w_iload iL_moves_11 rfl ?_
    refine w_icmpge iL_moves_12 (fun h12 => ?_) (fun h_ => absurd h_ (by omega))
    exact K _ I F hC hV ha
  | succ w ih =>
    intro k I F hk hC hV ha
    refine w_iload iL_moves_9 rfl ?_
    refine w_iload iL_moves_11 rfl ?_
    refine w_icmpge iL_moves_12 (fun h_ => absurd h_ (by omega)) (fun h12 => ?_)
    refine w_aload iL_moves_15 rfl ?_
    refine w_iload iL_moves_17 rfl ?_
    refine w_const iL_moves_19 ?_
    refine w_iast iL_moves_20 sL68 (by omega) ?_
    refine w_ii11 iL_moves_21 (by omega) ?_
    refine w_goto iL_moves_24 ?_
    refine ih (k + 1) I _ (by omega) (hC.up (by decide)) (fun a h1 h2 => ?_) (fun j hj => ?_)
    · rw [← hV a h1 h2]; funext j; simp only [upF]; rw [if_neg (fun z => h2 z.1)]
    · simp only [upF, true_and]
      by_cases cj : j = (k : Int)
      · rw [if_pos cj]
      · rw [if_neg cj]; exact ha j (by omega)
end MOVES
theorem sL_moves {d : Nat} {S : Sx} {I : IE} {F : FE} {m own : Int} (hd : 7 ≤ d) (hC : CI S I F) (hFP : FP S F) (hm : m = fbm (gM S.1) (gC S.1) (gY S.1)) (hm24 : m ≤ 24) (ho : own = ixo (gM S.1) (gC S.1) (gY S.1) (gY S.1)) (hR : RwF S m F) :
    MB mL_moves d shL [rv 0, rv 62, iv own, iv m, rv 64, rv 65, rv 66, rv 67, rv 68] I F (fun v I' F' => v = 1 ∧ CI S I' F' ∧ ∀ a, 62 ≤ a → a ≠ 68 → F' a = F a) := by
  have z0 : 0 ≤ fbm (gM S.1) (gC S.1) (gY S.1) := hFP.fib.1
  have hown := hFP.own.1
  obtain ⟨M, rfl⟩ : ∃ M : Nat, m = (M : Int) := ⟨m.toNat, by omega⟩
  rw [← hm, ← ho] at hown
  refine MS_of (ls := [lr 0, lr 62, li own, li M, lr 64, lr 65, lr 66, lr 67, lr 68, lu, lu, lu, lu, lu, lu]) fL_moves rfl rfl (Nat.le_of_ble_eq_true rfl) ?_
  refine w_const iL_moves_0 ?_
  refine w_is9 iL_moves_1 ?_
  refine w_const iL_moves_3 ?_
  refine w_is10 iL_moves_4 ?_
  refine w_const iL_moves_6 ?_
  refine w_is11 iL_moves_7 ?_
  refine mv0 (G := F) (by omega) (fun x11 I1 F1 h1 h2 h3 => ?_) M 0 I F (by omega) hC (fun _ _ _ => rfl) (fun j hj => absurd hj (by omega))
  have w0 : WI M (Ap S) own 0 0 (F1 68) := ⟨Int.le_refl _, (cP_none M (fun j hj z => by rw [h3 j hj] at z; omega)).symm, (cP_none M (fun j hj z => by have := z.2; rw [h3 j hj] at this; omega)).symm, fun _ => h3, fun j hj => .inl (h3 j hj), fun i j hi _ h0 _ => by rw [h3 i hi] at h0; omega, fun z => by omega⟩
  refine w_iload iL_moves_27 rfl ?_
  refine w_is11 iL_moves_28 ?_
  refine mvW hd hFP hm (by omega) hR hown (fun x11 x12 x13 x14 c I2 F2 g1 g2 g3 => ?_) (M + 1) 0 0 own _ _ _ I1 F1 (by omega) h1 h2 w0 (fun _ => ⟨hown, by rw [h3 own hown]; decide⟩) (fun _ => rfl)
  have hcl : c = ncl (gM S.1) (gC S.1) (gY S.1) (gA S.1) := by
    rw [ncl_lr hFP, ← hm, g3.2.2.1]
    have all := cP_all (P := fun j => 0 ≤ F2 68 j) M g3.2.1.symm
    exact cP_ext M (fun j hj => ⟨fun z => z.1, fun z => ⟨z, all j hj⟩⟩)
  refine w_const iL_moves_213 ?_
  refine w_is12 iL_moves_214 ?_
  refine mvD hd hFP hm (by omega) ho g3 (fun x12 x11 x13 x14 I3 F3 k1 k2 => ?_) M 0 _ _ _ I2 F2 (by omega) g1 g2 rfl
  refine w_aload iL_moves_265 rfl ?_
  refine w_o iL_moves_266 f7_classes v7_classes (o_classes hFP.2.2.1) k1 rfl rfl rfl rfl (Nat.le_of_ble_eq_true rfl) (by omega) ⟨Nat.le_refl _, Nat.le_refl _⟩ (fun v4 S4 I4 F4 hq4 hC4 hf4 => ?_)
  obtain ⟨rfl, rfl⟩ := hq4
  refine w_iload iL_moves_269 rfl ?_
  refine w_icmpne iL_moves_271 (fun h_ => absurd h_ (fun z => z hcl.symm)) (fun h271 => ?_)
  refine w_aload iL_moves_274 rfl ?_
  refine w_iload iL_moves_275 rfl ?_
  refine w_o iL_moves_276 f7_distance v7_distance (o_distance hFP.2.2.1 (by omega)) hC4 rfl rfl rfl rfl (Nat.le_of_ble_eq_true rfl) (by omega) ⟨Nat.le_refl _, Nat.le_refl _⟩ (fun v5 S5 I5 F5 hq5 hC5 hf5 => ?_)
  obtain ⟨rfl, rfl⟩ := hq5
  rw [if_pos (sto_out (by omega) (by omega))]
  refine w_const iL_moves_279 ?_
  refine w_icmpne iL_moves_282 (fun h_ => absurd h_ (fun z => z rfl)) (fun h282 => ?_)
  refine w_aload iL_moves_285 rfl ?_
  refine w_const iL_moves_286 ?_
  refine w_o iL_moves_287 f7_distance v7_distance (o_distanceI (by decide)) hC5 rfl rfl rfl rfl (Nat.le_of_ble_eq_true rfl) (by omega) ⟨Nat.le_refl _, Nat.le_refl _⟩ (fun v6 S6 I6 F6 hq6 hC6 hf6 => ?_)
  obtain ⟨rfl, rfl⟩ := hq6
  refine w_const iL_moves_290 ?_
  refine w_icmpne iL_moves_293 (fun h_ => absurd h_ (fun z => z rfl)) (fun h293 => ?_)
  refine w_const iL_moves_296 ?_
  refine w_goto iL_moves_297 ?_
  refine w_iret iL_moves_301 (Or.inr ⟨rfl, by omega⟩) ⟨Nat.le_refl _, Nat.le_refl _⟩ ?_
  exact ⟨rfl, _, rfl, rfl, hC6, fun a h1 h2 => by rw [hf6 a h1, hf5 a h1, hf4 a h1, k2 a h1 h2]⟩
